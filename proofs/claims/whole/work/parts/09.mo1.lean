theorem d_Mo_isIn_0 : decode b_Mo_isIn 0 = .ok (.lload_n 0, 1) := by decide +kernel
theorem d_Mo_isIn_1 : decode b_Mo_isIn 1 = .ok (.lload_n 2, 1) := by decide +kernel
theorem d_Mo_isIn_2 : decode b_Mo_isIn 2 = .ok (.lcmp, 1) := by decide +kernel
theorem d_Mo_isIn_3 : decode b_Mo_isIn 3 = .ok (.ifCond .lt 14, 3) := by decide +kernel
theorem d_Mo_isIn_6 : decode b_Mo_isIn 6 = .ok (.lload_n 0, 1) := by decide +kernel
theorem d_Mo_isIn_7 : decode b_Mo_isIn 7 = .ok (.lload 4, 2) := by decide +kernel
theorem d_Mo_isIn_9 : decode b_Mo_isIn 9 = .ok (.lcmp, 1) := by decide +kernel
theorem d_Mo_isIn_10 : decode b_Mo_isIn 10 = .ok (.ifCond .gt 7, 3) := by decide +kernel
theorem d_Mo_isIn_13 : decode b_Mo_isIn 13 = .ok (.iconst 1, 1) := by decide +kernel
theorem d_Mo_isIn_14 : decode b_Mo_isIn 14 = .ok (.goto 4, 3) := by decide +kernel
theorem d_Mo_isIn_17 : decode b_Mo_isIn 17 = .ok (.iconst 0, 1) := by decide +kernel
theorem d_Mo_isIn_18 : decode b_Mo_isIn 18 = .ok (.ireturn, 1) := by decide +kernel
theorem d_Mo_isKind_0 : decode b_Mo_isKind 0 = .ok (.iload_n 0, 1) := by decide +kernel
theorem d_Mo_isKind_1 : decode b_Mo_isKind 1 = .ok (.ifCond .lt 12, 3) := by decide +kernel
theorem d_Mo_isKind_4 : decode b_Mo_isKind 4 = .ok (.iload_n 0, 1) := by decide +kernel
theorem d_Mo_isKind_5 : decode b_Mo_isKind 5 = .ok (.iconst 4, 1) := by decide +kernel
theorem d_Mo_isKind_6 : decode b_Mo_isKind 6 = .ok (.if_icmp .ge 7, 3) := by decide +kernel
theorem d_Mo_isKind_9 : decode b_Mo_isKind 9 = .ok (.iconst 1, 1) := by decide +kernel
theorem d_Mo_isKind_10 : decode b_Mo_isKind 10 = .ok (.goto 4, 3) := by decide +kernel
theorem d_Mo_isKind_13 : decode b_Mo_isKind 13 = .ok (.iconst 0, 1) := by decide +kernel
theorem d_Mo_isKind_14 : decode b_Mo_isKind 14 = .ok (.ireturn, 1) := by decide +kernel
theorem d_Mo_timesOf_0 : decode b_Mo_timesOf 0 = .ok (.iload_n 1, 1) := by decide +kernel
theorem d_Mo_timesOf_1 : decode b_Mo_timesOf 1 = .ok (.ifCond .ne 11, 3) := by decide +kernel
theorem d_Mo_timesOf_4 : decode b_Mo_timesOf 4 = .ok (.iload_n 0, 1) := by decide +kernel
theorem d_Mo_timesOf_5 : decode b_Mo_timesOf 5 = .ok (.sipush 1000, 3) := by decide +kernel
theorem d_Mo_timesOf_8 : decode b_Mo_timesOf 8 = .ok (.idiv, 1) := by decide +kernel
theorem d_Mo_timesOf_9 : decode b_Mo_timesOf 9 = .ok (.goto 37, 3) := by decide +kernel
theorem d_Mo_timesOf_12 : decode b_Mo_timesOf 12 = .ok (.iload_n 1, 1) := by decide +kernel
theorem d_Mo_timesOf_13 : decode b_Mo_timesOf 13 = .ok (.iconst 1, 1) := by decide +kernel
theorem d_Mo_timesOf_14 : decode b_Mo_timesOf 14 = .ok (.if_icmp .ne 13, 3) := by decide +kernel
theorem d_Mo_timesOf_17 : decode b_Mo_timesOf 17 = .ok (.iload_n 0, 1) := by decide +kernel
theorem d_Mo_timesOf_18 : decode b_Mo_timesOf 18 = .ok (.bipush 100, 2) := by decide +kernel
theorem d_Mo_timesOf_20 : decode b_Mo_timesOf 20 = .ok (.idiv, 1) := by decide +kernel
theorem d_Mo_timesOf_21 : decode b_Mo_timesOf 21 = .ok (.bipush 10, 2) := by decide +kernel
theorem d_Mo_timesOf_23 : decode b_Mo_timesOf 23 = .ok (.irem, 1) := by decide +kernel
theorem d_Mo_timesOf_24 : decode b_Mo_timesOf 24 = .ok (.goto 22, 3) := by decide +kernel
theorem d_Mo_timesOf_27 : decode b_Mo_timesOf 27 = .ok (.iload_n 1, 1) := by decide +kernel
theorem d_Mo_timesOf_28 : decode b_Mo_timesOf 28 = .ok (.iconst 2, 1) := by decide +kernel
theorem d_Mo_timesOf_29 : decode b_Mo_timesOf 29 = .ok (.if_icmp .ne 13, 3) := by decide +kernel
theorem d_Mo_timesOf_32 : decode b_Mo_timesOf 32 = .ok (.iload_n 0, 1) := by decide +kernel
theorem d_Mo_timesOf_33 : decode b_Mo_timesOf 33 = .ok (.bipush 10, 2) := by decide +kernel
theorem d_Mo_timesOf_35 : decode b_Mo_timesOf 35 = .ok (.idiv, 1) := by decide +kernel
theorem d_Mo_timesOf_36 : decode b_Mo_timesOf 36 = .ok (.bipush 10, 2) := by decide +kernel
theorem d_Mo_timesOf_38 : decode b_Mo_timesOf 38 = .ok (.irem, 1) := by decide +kernel
theorem d_Mo_timesOf_39 : decode b_Mo_timesOf 39 = .ok (.goto 7, 3) := by decide +kernel
theorem d_Mo_timesOf_42 : decode b_Mo_timesOf 42 = .ok (.iload_n 0, 1) := by decide +kernel
theorem d_Mo_timesOf_43 : decode b_Mo_timesOf 43 = .ok (.bipush 10, 2) := by decide +kernel
theorem d_Mo_timesOf_45 : decode b_Mo_timesOf 45 = .ok (.irem, 1) := by decide +kernel
theorem d_Mo_timesOf_46 : decode b_Mo_timesOf 46 = .ok (.ireturn, 1) := by decide +kernel
theorem d_Mo_kind_0 : decode b_Mo_kind 0 = .ok (.iload_n 1, 1) := by decide +kernel
theorem d_Mo_kind_1 : decode b_Mo_kind 1 = .ok (.invokestatic 60, 3) := by decide +kernel
theorem d_Mo_kind_4 : decode b_Mo_kind 4 = .ok (.ifCond .eq 27, 3) := by decide +kernel
theorem d_Mo_kind_7 : decode b_Mo_kind 7 = .ok (.iload_n 2, 1) := by decide +kernel
theorem d_Mo_kind_8 : decode b_Mo_kind 8 = .ok (.i2l, 1) := by decide +kernel
theorem d_Mo_kind_9 : decode b_Mo_kind 9 = .ok (.lconst 0, 1) := by decide +kernel
theorem d_Mo_kind_10 : decode b_Mo_kind 10 = .ok (.ldc2_w 64, 3) := by decide +kernel
theorem d_Mo_kind_13 : decode b_Mo_kind 13 = .ok (.invokestatic 66, 3) := by decide +kernel
theorem d_Mo_kind_16 : decode b_Mo_kind 16 = .ok (.ifCond .eq 15, 3) := by decide +kernel
theorem d_Mo_kind_19 : decode b_Mo_kind 19 = .ok (.iload_n 3, 1) := by decide +kernel
theorem d_Mo_kind_20 : decode b_Mo_kind 20 = .ok (.i2l, 1) := by decide +kernel
theorem d_Mo_kind_21 : decode b_Mo_kind 21 = .ok (.lconst 0, 1) := by decide +kernel
theorem d_Mo_kind_22 : decode b_Mo_kind 22 = .ok (.ldc2_w 70, 3) := by decide +kernel
theorem d_Mo_kind_25 : decode b_Mo_kind 25 = .ok (.invokestatic 66, 3) := by decide +kernel
theorem d_Mo_kind_28 : decode b_Mo_kind 28 = .ok (.ifCond .ne 5, 3) := by decide +kernel
theorem d_Mo_kind_31 : decode b_Mo_kind 31 = .ok (.iconst 0, 1) := by decide +kernel
theorem d_Mo_kind_32 : decode b_Mo_kind 32 = .ok (.ireturn, 1) := by decide +kernel
theorem d_Mo_kind_33 : decode b_Mo_kind 33 = .ok (.aload_n 0, 1) := by decide +kernel
theorem d_Mo_kind_34 : decode b_Mo_kind 34 = .ok (.getfield 7, 3) := by decide +kernel
theorem d_Mo_kind_37 : decode b_Mo_kind 37 = .ok (.iconst 3, 1) := by decide +kernel
theorem d_Mo_kind_38 : decode b_Mo_kind 38 = .ok (.iload_n 1, 1) := by decide +kernel
theorem d_Mo_kind_39 : decode b_Mo_kind 39 = .ok (.imul, 1) := by decide +kernel
theorem d_Mo_kind_40 : decode b_Mo_kind 40 = .ok (.iaload, 1) := by decide +kernel
theorem d_Mo_kind_41 : decode b_Mo_kind 41 = .ok (.aload_n 0, 1) := by decide +kernel
theorem d_Mo_kind_42 : decode b_Mo_kind 42 = .ok (.getfield 7, 3) := by decide +kernel
theorem d_Mo_kind_45 : decode b_Mo_kind 45 = .ok (.iconst 3, 1) := by decide +kernel
theorem d_Mo_kind_46 : decode b_Mo_kind 46 = .ok (.iload_n 1, 1) := by decide +kernel
theorem d_Mo_kind_47 : decode b_Mo_kind 47 = .ok (.imul, 1) := by decide +kernel
theorem d_Mo_kind_48 : decode b_Mo_kind 48 = .ok (.iconst 1, 1) := by decide +kernel
theorem d_Mo_kind_49 : decode b_Mo_kind 49 = .ok (.iadd, 1) := by decide +kernel
theorem d_Mo_kind_50 : decode b_Mo_kind 50 = .ok (.iaload, 1) := by decide +kernel
theorem d_Mo_kind_51 : decode b_Mo_kind 51 = .ok (.iadd, 1) := by decide +kernel
theorem d_Mo_kind_52 : decode b_Mo_kind 52 = .ok (.aload_n 0, 1) := by decide +kernel
theorem d_Mo_kind_53 : decode b_Mo_kind 53 = .ok (.getfield 7, 3) := by decide +kernel
theorem d_Mo_kind_56 : decode b_Mo_kind 56 = .ok (.iconst 3, 1) := by decide +kernel
theorem d_Mo_kind_57 : decode b_Mo_kind 57 = .ok (.iload_n 1, 1) := by decide +kernel
theorem d_Mo_kind_58 : decode b_Mo_kind 58 = .ok (.imul, 1) := by decide +kernel
theorem d_Mo_kind_59 : decode b_Mo_kind 59 = .ok (.iconst 2, 1) := by decide +kernel
theorem d_Mo_kind_60 : decode b_Mo_kind 60 = .ok (.iadd, 1) := by decide +kernel
theorem d_Mo_kind_61 : decode b_Mo_kind 61 = .ok (.iaload, 1) := by decide +kernel
theorem d_Mo_kind_62 : decode b_Mo_kind 62 = .ok (.iadd, 1) := by decide +kernel
theorem d_Mo_kind_63 : decode b_Mo_kind 63 = .ok (.aload_n 0, 1) := by decide +kernel
theorem d_Mo_kind_64 : decode b_Mo_kind 64 = .ok (.getfield 7, 3) := by decide +kernel
theorem d_Mo_kind_67 : decode b_Mo_kind 67 = .ok (.iconst 3, 1) := by decide +kernel
theorem d_Mo_kind_68 : decode b_Mo_kind 68 = .ok (.iload_n 1, 1) := by decide +kernel
theorem d_Mo_kind_69 : decode b_Mo_kind 69 = .ok (.imul, 1) := by decide +kernel
theorem d_Mo_kind_70 : decode b_Mo_kind 70 = .ok (.iload_n 2, 1) := by decide +kernel
theorem d_Mo_kind_71 : decode b_Mo_kind 71 = .ok (.iadd, 1) := by decide +kernel
theorem d_Mo_kind_72 : decode b_Mo_kind 72 = .ok (.iaload, 1) := by decide +kernel
theorem d_Mo_kind_73 : decode b_Mo_kind 73 = .ok (.isub, 1) := by decide +kernel
theorem d_Mo_kind_74 : decode b_Mo_kind 74 = .ok (.iload_n 3, 1) := by decide +kernel
theorem d_Mo_kind_75 : decode b_Mo_kind 75 = .ok (.iadd, 1) := by decide +kernel
theorem d_Mo_kind_76 : decode b_Mo_kind 76 = .ok (.istore 4, 2) := by decide +kernel
theorem d_Mo_kind_78 : decode b_Mo_kind 78 = .ok (.iload 4, 2) := by decide +kernel
theorem d_Mo_kind_80 : decode b_Mo_kind 80 = .ok (.sipush 1000, 3) := by decide +kernel
theorem d_Mo_kind_83 : decode b_Mo_kind 83 = .ok (.if_icmp .le 5, 3) := by decide +kernel
theorem d_Mo_kind_86 : decode b_Mo_kind 86 = .ok (.iconst 0, 1) := by decide +kernel
theorem d_Mo_kind_87 : decode b_Mo_kind 87 = .ok (.ireturn, 1) := by decide +kernel
theorem d_Mo_kind_88 : decode b_Mo_kind 88 = .ok (.aload_n 0, 1) := by decide +kernel
theorem d_Mo_kind_89 : decode b_Mo_kind 89 = .ok (.getfield 7, 3) := by decide +kernel
theorem d_Mo_kind_92 : decode b_Mo_kind 92 = .ok (.iconst 3, 1) := by decide +kernel
theorem d_Mo_kind_93 : decode b_Mo_kind 93 = .ok (.iload_n 1, 1) := by decide +kernel
theorem d_Mo_kind_94 : decode b_Mo_kind 94 = .ok (.imul, 1) := by decide +kernel
theorem d_Mo_kind_95 : decode b_Mo_kind 95 = .ok (.iload_n 2, 1) := by decide +kernel
theorem d_Mo_kind_96 : decode b_Mo_kind 96 = .ok (.iadd, 1) := by decide +kernel
theorem d_Mo_kind_97 : decode b_Mo_kind 97 = .ok (.iload_n 3, 1) := by decide +kernel
theorem d_Mo_kind_98 : decode b_Mo_kind 98 = .ok (.iastore, 1) := by decide +kernel
theorem d_Mo_kind_99 : decode b_Mo_kind 99 = .ok (.iconst 1, 1) := by decide +kernel
theorem d_Mo_kind_100 : decode b_Mo_kind 100 = .ok (.ireturn, 1) := by decide +kernel
theorem d_Mo_start_0 : decode b_Mo_start 0 = .ok (.iload_n 1, 1) := by decide +kernel
theorem d_Mo_start_1 : decode b_Mo_start 1 = .ok (.i2l, 1) := by decide +kernel
theorem d_Mo_start_2 : decode b_Mo_start 2 = .ok (.lconst 0, 1) := by decide +kernel
theorem d_Mo_start_3 : decode b_Mo_start 3 = .ok (.ldc2_w 72, 3) := by decide +kernel
theorem d_Mo_start_6 : decode b_Mo_start 6 = .ok (.invokestatic 66, 3) := by decide +kernel
theorem d_Mo_start_9 : decode b_Mo_start 9 = .ok (.ifCond .eq 31, 3) := by decide +kernel
theorem d_Mo_start_12 : decode b_Mo_start 12 = .ok (.iload_n 2, 1) := by decide +kernel
theorem d_Mo_start_13 : decode b_Mo_start 13 = .ok (.i2l, 1) := by decide +kernel
theorem d_Mo_start_14 : decode b_Mo_start 14 = .ok (.lconst 0, 1) := by decide +kernel
theorem d_Mo_start_15 : decode b_Mo_start 15 = .ok (.ldc2_w 74, 3) := by decide +kernel
theorem d_Mo_start_18 : decode b_Mo_start 18 = .ok (.invokestatic 66, 3) := by decide +kernel
theorem d_Mo_start_21 : decode b_Mo_start 21 = .ok (.ifCond .eq 19, 3) := by decide +kernel
theorem d_Mo_start_24 : decode b_Mo_start 24 = .ok (.aload_n 0, 1) := by decide +kernel
theorem d_Mo_start_25 : decode b_Mo_start 25 = .ok (.getfield 13, 3) := by decide +kernel
theorem d_Mo_start_28 : decode b_Mo_start 28 = .ok (.iload_n 1, 1) := by decide +kernel
theorem d_Mo_start_29 : decode b_Mo_start 29 = .ok (.laload, 1) := by decide +kernel
theorem d_Mo_start_30 : decode b_Mo_start 30 = .ok (.iload_n 2, 1) := by decide +kernel
theorem d_Mo_start_31 : decode b_Mo_start 31 = .ok (.i2l, 1) := by decide +kernel
theorem d_Mo_start_32 : decode b_Mo_start 32 = .ok (.ladd, 1) := by decide +kernel
theorem d_Mo_start_33 : decode b_Mo_start 33 = .ok (.ldc2_w 29, 3) := by decide +kernel
theorem d_Mo_start_36 : decode b_Mo_start 36 = .ok (.lcmp, 1) := by decide +kernel
theorem d_Mo_start_37 : decode b_Mo_start 37 = .ok (.ifCond .le 5, 3) := by decide +kernel
theorem d_Mo_start_40 : decode b_Mo_start 40 = .ok (.iconst 0, 1) := by decide +kernel
theorem d_Mo_start_41 : decode b_Mo_start 41 = .ok (.ireturn, 1) := by decide +kernel
theorem d_Mo_start_42 : decode b_Mo_start 42 = .ok (.aload_n 0, 1) := by decide +kernel
theorem d_Mo_start_43 : decode b_Mo_start 43 = .ok (.getfield 13, 3) := by decide +kernel
theorem d_Mo_start_46 : decode b_Mo_start 46 = .ok (.iload_n 1, 1) := by decide +kernel
theorem d_Mo_start_47 : decode b_Mo_start 47 = .ok (.dup2, 1) := by decide +kernel
theorem d_Mo_start_48 : decode b_Mo_start 48 = .ok (.laload, 1) := by decide +kernel
theorem d_Mo_start_49 : decode b_Mo_start 49 = .ok (.iload_n 2, 1) := by decide +kernel
theorem d_Mo_start_50 : decode b_Mo_start 50 = .ok (.i2l, 1) := by decide +kernel
theorem d_Mo_start_51 : decode b_Mo_start 51 = .ok (.ladd, 1) := by decide +kernel
theorem d_Mo_start_52 : decode b_Mo_start 52 = .ok (.lastore, 1) := by decide +kernel
theorem d_Mo_start_53 : decode b_Mo_start 53 = .ok (.aload_n 0, 1) := by decide +kernel
theorem d_Mo_start_54 : decode b_Mo_start 54 = .ok (.dup, 1) := by decide +kernel
theorem d_Mo_start_55 : decode b_Mo_start 55 = .ok (.getfield 76, 3) := by decide +kernel
theorem d_Mo_start_58 : decode b_Mo_start 58 = .ok (.iload_n 2, 1) := by decide +kernel
theorem d_Mo_start_59 : decode b_Mo_start 59 = .ok (.i2l, 1) := by decide +kernel
theorem d_Mo_start_60 : decode b_Mo_start 60 = .ok (.ladd, 1) := by decide +kernel
theorem d_Mo_start_61 : decode b_Mo_start 61 = .ok (.putfield 76, 3) := by decide +kernel
theorem d_Mo_start_64 : decode b_Mo_start 64 = .ok (.iconst 1, 1) := by decide +kernel
theorem d_Mo_start_65 : decode b_Mo_start 65 = .ok (.ireturn, 1) := by decide +kernel
theorem d_Mo_feed_0 : decode b_Mo_feed 0 = .ok (.iload_n 1, 1) := by decide +kernel
theorem d_Mo_feed_1 : decode b_Mo_feed 1 = .ok (.i2l, 1) := by decide +kernel
theorem d_Mo_feed_2 : decode b_Mo_feed 2 = .ok (.aload_n 0, 1) := by decide +kernel
theorem d_Mo_feed_3 : decode b_Mo_feed 3 = .ok (.getfield 79, 3) := by decide +kernel
theorem d_Mo_feed_6 : decode b_Mo_feed 6 = .ok (.i2l, 1) := by decide +kernel
theorem d_Mo_feed_7 : decode b_Mo_feed 7 = .ok (.ldc2_w 83, 3) := by decide +kernel
theorem d_Mo_feed_10 : decode b_Mo_feed 10 = .ok (.invokestatic 66, 3) := by decide +kernel
theorem d_Mo_feed_13 : decode b_Mo_feed 13 = .ok (.ifCond .eq 31, 3) := by decide +kernel
theorem d_Mo_feed_16 : decode b_Mo_feed 16 = .ok (.iload_n 2, 1) := by decide +kernel
theorem d_Mo_feed_17 : decode b_Mo_feed 17 = .ok (.invokestatic 60, 3) := by decide +kernel
theorem d_Mo_feed_20 : decode b_Mo_feed 20 = .ok (.ifCond .eq 24, 3) := by decide +kernel
theorem d_Mo_feed_23 : decode b_Mo_feed 23 = .ok (.iload_n 3, 1) := by decide +kernel
theorem d_Mo_feed_24 : decode b_Mo_feed 24 = .ok (.i2l, 1) := by decide +kernel
theorem d_Mo_feed_25 : decode b_Mo_feed 25 = .ok (.lconst 1, 1) := by decide +kernel
theorem d_Mo_feed_26 : decode b_Mo_feed 26 = .ok (.ldc2_w 85, 3) := by decide +kernel
theorem d_Mo_feed_29 : decode b_Mo_feed 29 = .ok (.invokestatic 66, 3) := by decide +kernel
theorem d_Mo_feed_32 : decode b_Mo_feed 32 = .ok (.ifCond .eq 12, 3) := by decide +kernel
theorem d_Mo_feed_35 : decode b_Mo_feed 35 = .ok (.aload_n 0, 1) := by decide +kernel
theorem d_Mo_feed_36 : decode b_Mo_feed 36 = .ok (.getfield 87, 3) := by decide +kernel
theorem d_Mo_feed_39 : decode b_Mo_feed 39 = .ok (.bipush 30, 2) := by decide +kernel
theorem d_Mo_feed_41 : decode b_Mo_feed 41 = .ok (.if_icmp .ne 5, 3) := by decide +kernel
theorem d_Mo_feed_44 : decode b_Mo_feed 44 = .ok (.iconst 0, 1) := by decide +kernel
theorem d_Mo_feed_45 : decode b_Mo_feed 45 = .ok (.ireturn, 1) := by decide +kernel
theorem d_Mo_feed_46 : decode b_Mo_feed 46 = .ok (.aload_n 0, 1) := by decide +kernel
theorem d_Mo_feed_47 : decode b_Mo_feed 47 = .ok (.getfield 17, 3) := by decide +kernel
theorem d_Mo_feed_50 : decode b_Mo_feed 50 = .ok (.aload_n 0, 1) := by decide +kernel
theorem d_Mo_feed_51 : decode b_Mo_feed 51 = .ok (.getfield 87, 3) := by decide +kernel
theorem d_Mo_feed_54 : decode b_Mo_feed 54 = .ok (.iload_n 1, 1) := by decide +kernel
theorem d_Mo_feed_55 : decode b_Mo_feed 55 = .ok (.iastore, 1) := by decide +kernel
theorem d_Mo_feed_56 : decode b_Mo_feed 56 = .ok (.aload_n 0, 1) := by decide +kernel
theorem d_Mo_feed_57 : decode b_Mo_feed 57 = .ok (.getfield 20, 3) := by decide +kernel
theorem d_Mo_feed_60 : decode b_Mo_feed 60 = .ok (.aload_n 0, 1) := by decide +kernel
theorem d_Mo_feed_61 : decode b_Mo_feed 61 = .ok (.getfield 87, 3) := by decide +kernel
theorem d_Mo_feed_64 : decode b_Mo_feed 64 = .ok (.iload_n 2, 1) := by decide +kernel
theorem d_Mo_feed_65 : decode b_Mo_feed 65 = .ok (.iastore, 1) := by decide +kernel
theorem d_Mo_feed_66 : decode b_Mo_feed 66 = .ok (.aload_n 0, 1) := by decide +kernel
theorem d_Mo_feed_67 : decode b_Mo_feed 67 = .ok (.getfield 23, 3) := by decide +kernel
theorem d_Mo_feed_70 : decode b_Mo_feed 70 = .ok (.aload_n 0, 1) := by decide +kernel
theorem d_Mo_feed_71 : decode b_Mo_feed 71 = .ok (.getfield 87, 3) := by decide +kernel
theorem d_Mo_feed_74 : decode b_Mo_feed 74 = .ok (.iload_n 3, 1) := by decide +kernel
theorem d_Mo_feed_75 : decode b_Mo_feed 75 = .ok (.iastore, 1) := by decide +kernel
theorem d_Mo_feed_76 : decode b_Mo_feed 76 = .ok (.aload_n 0, 1) := by decide +kernel
theorem d_Mo_feed_77 : decode b_Mo_feed 77 = .ok (.dup, 1) := by decide +kernel
theorem d_Mo_feed_78 : decode b_Mo_feed 78 = .ok (.getfield 87, 3) := by decide +kernel
theorem d_Mo_feed_81 : decode b_Mo_feed 81 = .ok (.iconst 1, 1) := by decide +kernel
theorem d_Mo_feed_82 : decode b_Mo_feed 82 = .ok (.iadd, 1) := by decide +kernel
theorem d_Mo_feed_83 : decode b_Mo_feed 83 = .ok (.putfield 87, 3) := by decide +kernel
theorem d_Mo_feed_86 : decode b_Mo_feed 86 = .ok (.iconst 1, 1) := by decide +kernel
theorem d_Mo_feed_87 : decode b_Mo_feed 87 = .ok (.ireturn, 1) := by decide +kernel
theorem d_Mo_rate_0 : decode b_Mo_rate 0 = .ok (.iload_n 1, 1) := by decide +kernel
theorem d_Mo_rate_1 : decode b_Mo_rate 1 = .ok (.i2l, 1) := by decide +kernel
theorem d_Mo_rate_2 : decode b_Mo_rate 2 = .ok (.lconst 0, 1) := by decide +kernel
theorem d_Mo_rate_3 : decode b_Mo_rate 3 = .ok (.ldc2_w 64, 3) := by decide +kernel
theorem d_Mo_rate_6 : decode b_Mo_rate 6 = .ok (.invokestatic 66, 3) := by decide +kernel
theorem d_Mo_rate_9 : decode b_Mo_rate 9 = .ok (.ifCond .eq 15, 3) := by decide +kernel
theorem d_Mo_rate_12 : decode b_Mo_rate 12 = .ok (.iload_n 2, 1) := by decide +kernel
theorem d_Mo_rate_13 : decode b_Mo_rate 13 = .ok (.i2l, 1) := by decide +kernel
theorem d_Mo_rate_14 : decode b_Mo_rate 14 = .ok (.lconst 0, 1) := by decide +kernel
theorem d_Mo_rate_15 : decode b_Mo_rate 15 = .ok (.ldc2_w 74, 3) := by decide +kernel
theorem d_Mo_rate_18 : decode b_Mo_rate 18 = .ok (.invokestatic 66, 3) := by decide +kernel
theorem d_Mo_rate_21 : decode b_Mo_rate 21 = .ok (.ifCond .ne 5, 3) := by decide +kernel
theorem d_Mo_rate_24 : decode b_Mo_rate 24 = .ok (.iconst 0, 1) := by decide +kernel
theorem d_Mo_rate_25 : decode b_Mo_rate 25 = .ok (.ireturn, 1) := by decide +kernel
theorem d_Mo_rate_26 : decode b_Mo_rate 26 = .ok (.aload_n 0, 1) := by decide +kernel
theorem d_Mo_rate_27 : decode b_Mo_rate 27 = .ok (.getfield 26, 3) := by decide +kernel
theorem d_Mo_rate_30 : decode b_Mo_rate 30 = .ok (.iload_n 1, 1) := by decide +kernel
theorem d_Mo_rate_31 : decode b_Mo_rate 31 = .ok (.iload_n 2, 1) := by decide +kernel
theorem d_Mo_rate_32 : decode b_Mo_rate 32 = .ok (.iastore, 1) := by decide +kernel
theorem d_Mo_rate_33 : decode b_Mo_rate 33 = .ok (.iconst 1, 1) := by decide +kernel
theorem d_Mo_rate_34 : decode b_Mo_rate 34 = .ok (.ireturn, 1) := by decide +kernel
theorem d_Mo_bound_0 : decode b_Mo_bound 0 = .ok (.aload_n 0, 1) := by decide +kernel
theorem d_Mo_bound_1 : decode b_Mo_bound 1 = .ok (.iload_n 1, 1) := by decide +kernel
theorem d_Mo_bound_2 : decode b_Mo_bound 2 = .ok (.i2l, 1) := by decide +kernel
theorem d_Mo_bound_3 : decode b_Mo_bound 3 = .ok (.lconst 1, 1) := by decide +kernel
theorem d_Mo_bound_4 : decode b_Mo_bound 4 = .ok (.ldc2_w 29, 3) := by decide +kernel
theorem d_Mo_bound_7 : decode b_Mo_bound 7 = .ok (.invokestatic 66, 3) := by decide +kernel
theorem d_Mo_bound_10 : decode b_Mo_bound 10 = .ok (.ifCond .eq 8, 3) := by decide +kernel
theorem d_Mo_bound_13 : decode b_Mo_bound 13 = .ok (.iload_n 1, 1) := by decide +kernel
theorem d_Mo_bound_14 : decode b_Mo_bound 14 = .ok (.i2l, 1) := by decide +kernel
theorem d_Mo_bound_15 : decode b_Mo_bound 15 = .ok (.goto 7, 3) := by decide +kernel
theorem d_Mo_bound_18 : decode b_Mo_bound 18 = .ok (.aload_n 0, 1) := by decide +kernel
theorem d_Mo_bound_19 : decode b_Mo_bound 19 = .ok (.getfield 31, 3) := by decide +kernel
theorem d_Mo_bound_22 : decode b_Mo_bound 22 = .ok (.putfield 31, 3) := by decide +kernel
theorem d_Mo_bound_25 : decode b_Mo_bound 25 = .ok (.iload_n 1, 1) := by decide +kernel
theorem d_Mo_bound_26 : decode b_Mo_bound 26 = .ok (.i2l, 1) := by decide +kernel
theorem d_Mo_bound_27 : decode b_Mo_bound 27 = .ok (.lconst 1, 1) := by decide +kernel
theorem d_Mo_bound_28 : decode b_Mo_bound 28 = .ok (.ldc2_w 29, 3) := by decide +kernel
theorem d_Mo_bound_31 : decode b_Mo_bound 31 = .ok (.invokestatic 66, 3) := by decide +kernel
theorem d_Mo_bound_34 : decode b_Mo_bound 34 = .ok (.ireturn, 1) := by decide +kernel
theorem d_Mo_room_0 : decode b_Mo_room 0 = .ok (.aload_n 0, 1) := by decide +kernel
theorem d_Mo_room_1 : decode b_Mo_room 1 = .ok (.iload_n 1, 1) := by decide +kernel
theorem d_Mo_room_2 : decode b_Mo_room 2 = .ok (.i2l, 1) := by decide +kernel
theorem d_Mo_room_3 : decode b_Mo_room 3 = .ok (.lconst 0, 1) := by decide +kernel
theorem d_Mo_room_4 : decode b_Mo_room 4 = .ok (.ldc2_w 29, 3) := by decide +kernel
theorem d_Mo_room_7 : decode b_Mo_room 7 = .ok (.invokestatic 66, 3) := by decide +kernel
theorem d_Mo_room_10 : decode b_Mo_room 10 = .ok (.ifCond .eq 8, 3) := by decide +kernel
theorem d_Mo_room_13 : decode b_Mo_room 13 = .ok (.iload_n 1, 1) := by decide +kernel
theorem d_Mo_room_14 : decode b_Mo_room 14 = .ok (.i2l, 1) := by decide +kernel
theorem d_Mo_room_15 : decode b_Mo_room 15 = .ok (.goto 7, 3) := by decide +kernel
theorem d_Mo_room_18 : decode b_Mo_room 18 = .ok (.aload_n 0, 1) := by decide +kernel
theorem d_Mo_room_19 : decode b_Mo_room 19 = .ok (.getfield 90, 3) := by decide +kernel
theorem d_Mo_room_22 : decode b_Mo_room 22 = .ok (.putfield 90, 3) := by decide +kernel
theorem d_Mo_room_25 : decode b_Mo_room 25 = .ok (.iload_n 1, 1) := by decide +kernel
theorem d_Mo_room_26 : decode b_Mo_room 26 = .ok (.i2l, 1) := by decide +kernel
theorem d_Mo_room_27 : decode b_Mo_room 27 = .ok (.lconst 0, 1) := by decide +kernel
theorem d_Mo_room_28 : decode b_Mo_room 28 = .ok (.ldc2_w 29, 3) := by decide +kernel
theorem d_Mo_room_31 : decode b_Mo_room 31 = .ok (.invokestatic 66, 3) := by decide +kernel
theorem d_Mo_room_34 : decode b_Mo_room 34 = .ok (.ireturn, 1) := by decide +kernel
theorem d_Mo_rank_0 : decode b_Mo_rank 0 = .ok (.aload_n 0, 1) := by decide +kernel
theorem d_Mo_rank_1 : decode b_Mo_rank 1 = .ok (.getfield 93, 3) := by decide +kernel
theorem d_Mo_rank_4 : decode b_Mo_rank 4 = .ok (.iconst 4, 1) := by decide +kernel
theorem d_Mo_rank_5 : decode b_Mo_rank 5 = .ok (.if_icmp .eq 27, 3) := by decide +kernel
theorem d_Mo_rank_8 : decode b_Mo_rank 8 = .ok (.iload_n 1, 1) := by decide +kernel
theorem d_Mo_rank_9 : decode b_Mo_rank 9 = .ok (.i2l, 1) := by decide +kernel
theorem d_Mo_rank_10 : decode b_Mo_rank 10 = .ok (.lconst 0, 1) := by decide +kernel
theorem d_Mo_rank_11 : decode b_Mo_rank 11 = .ok (.ldc2_w 96, 3) := by decide +kernel
theorem d_Mo_rank_14 : decode b_Mo_rank 14 = .ok (.invokestatic 66, 3) := by decide +kernel
theorem d_Mo_rank_17 : decode b_Mo_rank 17 = .ok (.ifCond .eq 15, 3) := by decide +kernel
theorem d_Mo_rank_20 : decode b_Mo_rank 20 = .ok (.iload_n 2, 1) := by decide +kernel
theorem d_Mo_rank_21 : decode b_Mo_rank 21 = .ok (.i2l, 1) := by decide +kernel
theorem d_Mo_rank_22 : decode b_Mo_rank 22 = .ok (.lconst 0, 1) := by decide +kernel
theorem d_Mo_rank_23 : decode b_Mo_rank 23 = .ok (.ldc2_w 74, 3) := by decide +kernel
theorem d_Mo_rank_26 : decode b_Mo_rank 26 = .ok (.invokestatic 66, 3) := by decide +kernel
theorem d_Mo_rank_29 : decode b_Mo_rank 29 = .ok (.ifCond .ne 5, 3) := by decide +kernel
theorem d_Mo_rank_32 : decode b_Mo_rank 32 = .ok (.iconst (-1), 1) := by decide +kernel
theorem d_Mo_rank_33 : decode b_Mo_rank 33 = .ok (.ireturn, 1) := by decide +kernel
theorem d_Mo_rank_34 : decode b_Mo_rank 34 = .ok (.aload_n 0, 1) := by decide +kernel
theorem d_Mo_rank_35 : decode b_Mo_rank 35 = .ok (.getfield 35, 3) := by decide +kernel
theorem d_Mo_rank_38 : decode b_Mo_rank 38 = .ok (.aload_n 0, 1) := by decide +kernel
theorem d_Mo_rank_39 : decode b_Mo_rank 39 = .ok (.getfield 93, 3) := by decide +kernel
theorem d_Mo_rank_42 : decode b_Mo_rank 42 = .ok (.iload_n 1, 1) := by decide +kernel
theorem d_Mo_rank_43 : decode b_Mo_rank 43 = .ok (.iastore, 1) := by decide +kernel
theorem d_Mo_rank_44 : decode b_Mo_rank 44 = .ok (.aload_n 0, 1) := by decide +kernel
theorem d_Mo_rank_45 : decode b_Mo_rank 45 = .ok (.getfield 38, 3) := by decide +kernel
theorem d_Mo_rank_48 : decode b_Mo_rank 48 = .ok (.aload_n 0, 1) := by decide +kernel
theorem d_Mo_rank_49 : decode b_Mo_rank 49 = .ok (.getfield 93, 3) := by decide +kernel
theorem d_Mo_rank_52 : decode b_Mo_rank 52 = .ok (.iload_n 2, 1) := by decide +kernel
theorem d_Mo_rank_53 : decode b_Mo_rank 53 = .ok (.iastore, 1) := by decide +kernel
theorem d_Mo_rank_54 : decode b_Mo_rank 54 = .ok (.aload_n 0, 1) := by decide +kernel
theorem d_Mo_rank_55 : decode b_Mo_rank 55 = .ok (.dup, 1) := by decide +kernel
theorem d_Mo_rank_56 : decode b_Mo_rank 56 = .ok (.getfield 93, 3) := by decide +kernel
theorem d_Mo_rank_59 : decode b_Mo_rank 59 = .ok (.iconst 1, 1) := by decide +kernel
theorem d_Mo_rank_60 : decode b_Mo_rank 60 = .ok (.iadd, 1) := by decide +kernel
theorem d_Mo_rank_61 : decode b_Mo_rank 61 = .ok (.putfield 93, 3) := by decide +kernel
theorem d_Mo_rank_64 : decode b_Mo_rank 64 = .ok (.aload_n 0, 1) := by decide +kernel
theorem d_Mo_rank_65 : decode b_Mo_rank 65 = .ok (.getfield 93, 3) := by decide +kernel
theorem d_Mo_rank_68 : decode b_Mo_rank 68 = .ok (.iconst 1, 1) := by decide +kernel
theorem d_Mo_rank_69 : decode b_Mo_rank 69 = .ok (.isub, 1) := by decide +kernel
theorem d_Mo_rank_70 : decode b_Mo_rank 70 = .ok (.ireturn, 1) := by decide +kernel
theorem d_Mo_comes_0 : decode b_Mo_comes 0 = .ok (.lload_n 2, 1) := by decide +kernel
theorem d_Mo_comes_1 : decode b_Mo_comes 1 = .ok (.lstore 4, 2) := by decide +kernel
theorem d_Mo_comes_3 : decode b_Mo_comes 3 = .ok (.iconst 0, 1) := by decide +kernel
theorem d_Mo_comes_4 : decode b_Mo_comes 4 = .ok (.istore 6, 2) := by decide +kernel
theorem d_Mo_comes_6 : decode b_Mo_comes 6 = .ok (.iload 6, 2) := by decide +kernel
theorem d_Mo_comes_8 : decode b_Mo_comes 8 = .ok (.iconst 3, 1) := by decide +kernel
theorem d_Mo_comes_9 : decode b_Mo_comes 9 = .ok (.if_icmp .ge 48, 3) := by decide +kernel
theorem d_Mo_comes_12 : decode b_Mo_comes 12 = .ok (.lload_n 2, 1) := by decide +kernel
theorem d_Mo_comes_13 : decode b_Mo_comes 13 = .ok (.aload_n 0, 1) := by decide +kernel
theorem d_Mo_comes_14 : decode b_Mo_comes 14 = .ok (.getfield 7, 3) := by decide +kernel
theorem d_Mo_comes_17 : decode b_Mo_comes 17 = .ok (.iconst 3, 1) := by decide +kernel
theorem d_Mo_comes_18 : decode b_Mo_comes 18 = .ok (.iload_n 1, 1) := by decide +kernel
theorem d_Mo_comes_19 : decode b_Mo_comes 19 = .ok (.imul, 1) := by decide +kernel
theorem d_Mo_comes_20 : decode b_Mo_comes 20 = .ok (.iload 6, 2) := by decide +kernel
theorem d_Mo_comes_22 : decode b_Mo_comes 22 = .ok (.iadd, 1) := by decide +kernel
theorem d_Mo_comes_23 : decode b_Mo_comes 23 = .ok (.iaload, 1) := by decide +kernel
theorem d_Mo_comes_24 : decode b_Mo_comes 24 = .ok (.i2l, 1) := by decide +kernel
theorem d_Mo_comes_25 : decode b_Mo_comes 25 = .ok (.lmul, 1) := by decide +kernel
theorem d_Mo_comes_26 : decode b_Mo_comes 26 = .ok (.ldc2_w 70, 3) := by decide +kernel
theorem d_Mo_comes_29 : decode b_Mo_comes 29 = .ok (.ldiv, 1) := by decide +kernel
theorem d_Mo_comes_30 : decode b_Mo_comes 30 = .ok (.lstore 7, 2) := by decide +kernel
theorem d_Mo_comes_32 : decode b_Mo_comes 32 = .ok (.aload_n 0, 1) := by decide +kernel
theorem d_Mo_comes_33 : decode b_Mo_comes 33 = .ok (.getfield 13, 3) := by decide +kernel
theorem d_Mo_comes_36 : decode b_Mo_comes 36 = .ok (.iload 6, 2) := by decide +kernel
theorem d_Mo_comes_38 : decode b_Mo_comes 38 = .ok (.dup2, 1) := by decide +kernel
theorem d_Mo_comes_39 : decode b_Mo_comes 39 = .ok (.laload, 1) := by decide +kernel
theorem d_Mo_comes_40 : decode b_Mo_comes 40 = .ok (.lload 7, 2) := by decide +kernel
theorem d_Mo_comes_42 : decode b_Mo_comes 42 = .ok (.ladd, 1) := by decide +kernel
theorem d_Mo_comes_43 : decode b_Mo_comes 43 = .ok (.lastore, 1) := by decide +kernel
theorem d_Mo_comes_44 : decode b_Mo_comes 44 = .ok (.lload 4, 2) := by decide +kernel
theorem d_Mo_comes_46 : decode b_Mo_comes 46 = .ok (.lload 7, 2) := by decide +kernel
theorem d_Mo_comes_48 : decode b_Mo_comes 48 = .ok (.lsub, 1) := by decide +kernel
theorem d_Mo_comes_49 : decode b_Mo_comes 49 = .ok (.lstore 4, 2) := by decide +kernel
theorem d_Mo_comes_51 : decode b_Mo_comes 51 = .ok (.iinc 6 1, 3) := by decide +kernel
theorem d_Mo_comes_54 : decode b_Mo_comes 54 = .ok (.goto (-48), 3) := by decide +kernel
theorem d_Mo_comes_57 : decode b_Mo_comes 57 = .ok (.aload_n 0, 1) := by decide +kernel
theorem d_Mo_comes_58 : decode b_Mo_comes 58 = .ok (.getfield 13, 3) := by decide +kernel
theorem d_Mo_comes_61 : decode b_Mo_comes 61 = .ok (.iconst 3, 1) := by decide +kernel
theorem d_Mo_comes_62 : decode b_Mo_comes 62 = .ok (.dup2, 1) := by decide +kernel
theorem d_Mo_comes_63 : decode b_Mo_comes 63 = .ok (.laload, 1) := by decide +kernel
theorem d_Mo_comes_64 : decode b_Mo_comes 64 = .ok (.lload 4, 2) := by decide +kernel
theorem d_Mo_comes_66 : decode b_Mo_comes 66 = .ok (.ladd, 1) := by decide +kernel
theorem d_Mo_comes_67 : decode b_Mo_comes 67 = .ok (.lastore, 1) := by decide +kernel
theorem d_Mo_comes_68 : decode b_Mo_comes 68 = .ok (.aload_n 0, 1) := by decide +kernel
theorem d_Mo_comes_69 : decode b_Mo_comes 69 = .ok (.dup, 1) := by decide +kernel
theorem d_Mo_comes_70 : decode b_Mo_comes 70 = .ok (.getfield 76, 3) := by decide +kernel
theorem d_Mo_comes_73 : decode b_Mo_comes 73 = .ok (.lload_n 2, 1) := by decide +kernel
theorem d_Mo_comes_74 : decode b_Mo_comes 74 = .ok (.ladd, 1) := by decide +kernel
theorem d_Mo_comes_75 : decode b_Mo_comes 75 = .ok (.putfield 76, 3) := by decide +kernel
theorem d_Mo_comes_78 : decode b_Mo_comes 78 = .ok (.return_, 1) := by decide +kernel
theorem d_Mo_steps_0 : decode b_Mo_steps 0 = .ok (.aload_n 0, 1) := by decide +kernel
theorem d_Mo_steps_1 : decode b_Mo_steps 1 = .ok (.getfield 13, 3) := by decide +kernel
theorem d_Mo_steps_4 : decode b_Mo_steps 4 = .ok (.iload_n 3, 1) := by decide +kernel
theorem d_Mo_steps_5 : decode b_Mo_steps 5 = .ok (.laload, 1) := by decide +kernel
theorem d_Mo_steps_6 : decode b_Mo_steps 6 = .ok (.aload_n 0, 1) := by decide +kernel
theorem d_Mo_steps_7 : decode b_Mo_steps 7 = .ok (.getfield 26, 3) := by decide +kernel
theorem d_Mo_steps_10 : decode b_Mo_steps 10 = .ok (.iload_n 3, 1) := by decide +kernel
theorem d_Mo_steps_11 : decode b_Mo_steps 11 = .ok (.iaload, 1) := by decide +kernel
theorem d_Mo_steps_12 : decode b_Mo_steps 12 = .ok (.i2l, 1) := by decide +kernel
theorem d_Mo_steps_13 : decode b_Mo_steps 13 = .ok (.lmul, 1) := by decide +kernel
theorem d_Mo_steps_14 : decode b_Mo_steps 14 = .ok (.ldc2_w 74, 3) := by decide +kernel
theorem d_Mo_steps_17 : decode b_Mo_steps 17 = .ok (.ldiv, 1) := by decide +kernel
theorem d_Mo_steps_18 : decode b_Mo_steps 18 = .ok (.lload_n 1, 1) := by decide +kernel
theorem d_Mo_steps_19 : decode b_Mo_steps 19 = .ok (.lmul, 1) := by decide +kernel
theorem d_Mo_steps_20 : decode b_Mo_steps 20 = .ok (.ldc2_w 70, 3) := by decide +kernel
theorem d_Mo_steps_23 : decode b_Mo_steps 23 = .ok (.ldiv, 1) := by decide +kernel
theorem d_Mo_steps_24 : decode b_Mo_steps 24 = .ok (.lreturn, 1) := by decide +kernel
theorem d_Mo_at_0 : decode b_Mo_at 0 = .ok (.iload_n 1, 1) := by decide +kernel
theorem d_Mo_at_1 : decode b_Mo_at 1 = .ok (.ifCond .lt 17, 3) := by decide +kernel
theorem d_Mo_at_4 : decode b_Mo_at 4 = .ok (.iload_n 1, 1) := by decide +kernel
theorem d_Mo_at_5 : decode b_Mo_at 5 = .ok (.iconst 4, 1) := by decide +kernel
theorem d_Mo_at_6 : decode b_Mo_at 6 = .ok (.if_icmp .ge 12, 3) := by decide +kernel
theorem d_Mo_at_9 : decode b_Mo_at 9 = .ok (.aload_n 0, 1) := by decide +kernel
theorem d_Mo_at_10 : decode b_Mo_at 10 = .ok (.getfield 13, 3) := by decide +kernel
theorem d_Mo_at_13 : decode b_Mo_at 13 = .ok (.iload_n 1, 1) := by decide +kernel
theorem d_Mo_at_14 : decode b_Mo_at 14 = .ok (.laload, 1) := by decide +kernel
theorem d_Mo_at_15 : decode b_Mo_at 15 = .ok (.goto 6, 3) := by decide +kernel
theorem d_Mo_at_18 : decode b_Mo_at 18 = .ok (.ldc2_w 121, 3) := by decide +kernel
theorem d_Mo_at_21 : decode b_Mo_at 21 = .ok (.lreturn, 1) := by decide +kernel
theorem d_Mo_given_0 : decode b_Mo_given 0 = .ok (.iload_n 1, 1) := by decide +kernel
theorem d_Mo_given_1 : decode b_Mo_given 1 = .ok (.ifCond .lt 20, 3) := by decide +kernel
theorem d_Mo_given_4 : decode b_Mo_given 4 = .ok (.iload_n 1, 1) := by decide +kernel
theorem d_Mo_given_5 : decode b_Mo_given 5 = .ok (.aload_n 0, 1) := by decide +kernel
theorem d_Mo_given_6 : decode b_Mo_given 6 = .ok (.getfield 93, 3) := by decide +kernel
theorem d_Mo_given_9 : decode b_Mo_given 9 = .ok (.if_icmp .ge 12, 3) := by decide +kernel
theorem d_Mo_given_12 : decode b_Mo_given 12 = .ok (.aload_n 0, 1) := by decide +kernel
theorem d_Mo_given_13 : decode b_Mo_given 13 = .ok (.getfield 41, 3) := by decide +kernel
theorem d_Mo_given_16 : decode b_Mo_given 16 = .ok (.iload_n 1, 1) := by decide +kernel
theorem d_Mo_given_17 : decode b_Mo_given 17 = .ok (.laload, 1) := by decide +kernel
theorem d_Mo_given_18 : decode b_Mo_given 18 = .ok (.goto 6, 3) := by decide +kernel
theorem d_Mo_given_21 : decode b_Mo_given 21 = .ok (.ldc2_w 121, 3) := by decide +kernel
theorem d_Mo_given_24 : decode b_Mo_given 24 = .ok (.lreturn, 1) := by decide +kernel
theorem d_Mo_gone_0 : decode b_Mo_gone 0 = .ok (.iload_n 1, 1) := by decide +kernel
theorem d_Mo_gone_1 : decode b_Mo_gone 1 = .ok (.tableswitch 60 0 4 #[35, 40, 45, 50, 55], 35) := by decide +kernel
theorem d_Mo_gone_36 : decode b_Mo_gone 36 = .ok (.aload_n 0, 1) := by decide +kernel
theorem d_Mo_gone_37 : decode b_Mo_gone 37 = .ok (.getfield 76, 3) := by decide +kernel
theorem d_Mo_gone_40 : decode b_Mo_gone 40 = .ok (.lreturn, 1) := by decide +kernel
theorem d_Mo_gone_41 : decode b_Mo_gone 41 = .ok (.aload_n 0, 1) := by decide +kernel
theorem d_Mo_gone_42 : decode b_Mo_gone 42 = .ok (.getfield 106, 3) := by decide +kernel
theorem d_Mo_gone_45 : decode b_Mo_gone 45 = .ok (.lreturn, 1) := by decide +kernel
theorem d_Mo_gone_46 : decode b_Mo_gone 46 = .ok (.aload_n 0, 1) := by decide +kernel
theorem d_Mo_gone_47 : decode b_Mo_gone 47 = .ok (.getfield 112, 3) := by decide +kernel
theorem d_Mo_gone_50 : decode b_Mo_gone 50 = .ok (.lreturn, 1) := by decide +kernel
theorem d_Mo_gone_51 : decode b_Mo_gone 51 = .ok (.aload_n 0, 1) := by decide +kernel
theorem d_Mo_gone_52 : decode b_Mo_gone 52 = .ok (.getfield 115, 3) := by decide +kernel
theorem d_Mo_gone_55 : decode b_Mo_gone 55 = .ok (.lreturn, 1) := by decide +kernel
theorem d_Mo_gone_56 : decode b_Mo_gone 56 = .ok (.aload_n 0, 1) := by decide +kernel
theorem d_Mo_gone_57 : decode b_Mo_gone 57 = .ok (.getfield 109, 3) := by decide +kernel
theorem d_Mo_gone_60 : decode b_Mo_gone 60 = .ok (.lreturn, 1) := by decide +kernel
theorem d_Mo_gone_61 : decode b_Mo_gone 61 = .ok (.ldc2_w 121, 3) := by decide +kernel
theorem d_Mo_gone_64 : decode b_Mo_gone 64 = .ok (.lreturn, 1) := by decide +kernel
theorem d_Mo_balance_0 : decode b_Mo_balance 0 = .ok (.iload_n 1, 1) := by decide +kernel
theorem d_Mo_balance_1 : decode b_Mo_balance 1 = .ok (.ifCond .ne 41, 3) := by decide +kernel
theorem d_Mo_balance_4 : decode b_Mo_balance 4 = .ok (.aload_n 0, 1) := by decide +kernel
theorem d_Mo_balance_5 : decode b_Mo_balance 5 = .ok (.getfield 76, 3) := by decide +kernel
theorem d_Mo_balance_8 : decode b_Mo_balance 8 = .ok (.aload_n 0, 1) := by decide +kernel
theorem d_Mo_balance_9 : decode b_Mo_balance 9 = .ok (.getfield 13, 3) := by decide +kernel
theorem d_Mo_balance_12 : decode b_Mo_balance 12 = .ok (.iconst 0, 1) := by decide +kernel
theorem d_Mo_balance_13 : decode b_Mo_balance 13 = .ok (.laload, 1) := by decide +kernel
theorem d_Mo_balance_14 : decode b_Mo_balance 14 = .ok (.lsub, 1) := by decide +kernel
theorem d_Mo_balance_15 : decode b_Mo_balance 15 = .ok (.aload_n 0, 1) := by decide +kernel
theorem d_Mo_balance_16 : decode b_Mo_balance 16 = .ok (.getfield 13, 3) := by decide +kernel
theorem d_Mo_balance_19 : decode b_Mo_balance 19 = .ok (.iconst 1, 1) := by decide +kernel
theorem d_Mo_balance_20 : decode b_Mo_balance 20 = .ok (.laload, 1) := by decide +kernel
theorem d_Mo_balance_21 : decode b_Mo_balance 21 = .ok (.lsub, 1) := by decide +kernel
theorem d_Mo_balance_22 : decode b_Mo_balance 22 = .ok (.aload_n 0, 1) := by decide +kernel
theorem d_Mo_balance_23 : decode b_Mo_balance 23 = .ok (.getfield 13, 3) := by decide +kernel
theorem d_Mo_balance_26 : decode b_Mo_balance 26 = .ok (.iconst 2, 1) := by decide +kernel
theorem d_Mo_balance_27 : decode b_Mo_balance 27 = .ok (.laload, 1) := by decide +kernel
theorem d_Mo_balance_28 : decode b_Mo_balance 28 = .ok (.lsub, 1) := by decide +kernel
theorem d_Mo_balance_29 : decode b_Mo_balance 29 = .ok (.aload_n 0, 1) := by decide +kernel
theorem d_Mo_balance_30 : decode b_Mo_balance 30 = .ok (.getfield 13, 3) := by decide +kernel
theorem d_Mo_balance_33 : decode b_Mo_balance 33 = .ok (.iconst 3, 1) := by decide +kernel
theorem d_Mo_balance_34 : decode b_Mo_balance 34 = .ok (.laload, 1) := by decide +kernel
theorem d_Mo_balance_35 : decode b_Mo_balance 35 = .ok (.lsub, 1) := by decide +kernel
theorem d_Mo_balance_36 : decode b_Mo_balance 36 = .ok (.aload_n 0, 1) := by decide +kernel
theorem d_Mo_balance_37 : decode b_Mo_balance 37 = .ok (.getfield 106, 3) := by decide +kernel
theorem d_Mo_balance_40 : decode b_Mo_balance 40 = .ok (.lsub, 1) := by decide +kernel
theorem d_Mo_balance_41 : decode b_Mo_balance 41 = .ok (.lreturn, 1) := by decide +kernel
theorem d_Mo_balance_42 : decode b_Mo_balance 42 = .ok (.iload_n 1, 1) := by decide +kernel
theorem d_Mo_balance_43 : decode b_Mo_balance 43 = .ok (.iconst 1, 1) := by decide +kernel
theorem d_Mo_balance_44 : decode b_Mo_balance 44 = .ok (.if_icmp .ne 25, 3) := by decide +kernel
theorem d_Mo_balance_47 : decode b_Mo_balance 47 = .ok (.aload_n 0, 1) := by decide +kernel
theorem d_Mo_balance_48 : decode b_Mo_balance 48 = .ok (.getfield 106, 3) := by decide +kernel
theorem d_Mo_balance_51 : decode b_Mo_balance 51 = .ok (.aload_n 0, 1) := by decide +kernel
theorem d_Mo_balance_52 : decode b_Mo_balance 52 = .ok (.getfield 109, 3) := by decide +kernel
theorem d_Mo_balance_55 : decode b_Mo_balance 55 = .ok (.lsub, 1) := by decide +kernel
theorem d_Mo_balance_56 : decode b_Mo_balance 56 = .ok (.aload_n 0, 1) := by decide +kernel
theorem d_Mo_balance_57 : decode b_Mo_balance 57 = .ok (.getfield 112, 3) := by decide +kernel
theorem d_Mo_balance_60 : decode b_Mo_balance 60 = .ok (.lsub, 1) := by decide +kernel
theorem d_Mo_balance_61 : decode b_Mo_balance 61 = .ok (.aload_n 0, 1) := by decide +kernel
theorem d_Mo_balance_62 : decode b_Mo_balance 62 = .ok (.getfield 115, 3) := by decide +kernel
theorem d_Mo_balance_65 : decode b_Mo_balance 65 = .ok (.lsub, 1) := by decide +kernel
theorem d_Mo_balance_66 : decode b_Mo_balance 66 = .ok (.goto 6, 3) := by decide +kernel
theorem d_Mo_balance_69 : decode b_Mo_balance 69 = .ok (.ldc2_w 121, 3) := by decide +kernel
theorem d_Mo_balance_72 : decode b_Mo_balance 72 = .ok (.lreturn, 1) := by decide +kernel
theorem d_Mo_acid_0 : decode b_Mo_acid 0 = .ok (.lconst 0, 1) := by decide +kernel
theorem d_Mo_acid_1 : decode b_Mo_acid 1 = .ok (.lstore_n 1, 1) := by decide +kernel
theorem d_Mo_acid_2 : decode b_Mo_acid 2 = .ok (.ldc2_w 74, 3) := by decide +kernel
theorem d_Mo_acid_5 : decode b_Mo_acid 5 = .ok (.lstore_n 3, 1) := by decide +kernel
theorem d_Mo_acid_6 : decode b_Mo_acid 6 = .ok (.lload_n 1, 1) := by decide +kernel
theorem d_Mo_acid_7 : decode b_Mo_acid 7 = .ok (.lload_n 3, 1) := by decide +kernel
theorem d_Mo_acid_8 : decode b_Mo_acid 8 = .ok (.lcmp, 1) := by decide +kernel
theorem d_Mo_acid_9 : decode b_Mo_acid 9 = .ok (.ifCond .ge 79, 3) := by decide +kernel
theorem d_Mo_acid_12 : decode b_Mo_acid 12 = .ok (.lload_n 1, 1) := by decide +kernel
theorem d_Mo_acid_13 : decode b_Mo_acid 13 = .ok (.lload_n 3, 1) := by decide +kernel
theorem d_Mo_acid_14 : decode b_Mo_acid 14 = .ok (.ladd, 1) := by decide +kernel
theorem d_Mo_acid_15 : decode b_Mo_acid 15 = .ok (.lconst 1, 1) := by decide +kernel
theorem d_Mo_acid_16 : decode b_Mo_acid 16 = .ok (.ladd, 1) := by decide +kernel
theorem d_Mo_acid_17 : decode b_Mo_acid 17 = .ok (.ldc2_w 64, 3) := by decide +kernel
theorem d_Mo_acid_20 : decode b_Mo_acid 20 = .ok (.ldiv, 1) := by decide +kernel
theorem d_Mo_acid_21 : decode b_Mo_acid 21 = .ok (.lstore 5, 2) := by decide +kernel
theorem d_Mo_acid_23 : decode b_Mo_acid 23 = .ok (.lload 5, 2) := by decide +kernel
theorem d_Mo_acid_25 : decode b_Mo_acid 25 = .ok (.lload 5, 2) := by decide +kernel
theorem d_Mo_acid_27 : decode b_Mo_acid 27 = .ok (.lmul, 1) := by decide +kernel
theorem d_Mo_acid_28 : decode b_Mo_acid 28 = .ok (.lload 5, 2) := by decide +kernel
theorem d_Mo_acid_30 : decode b_Mo_acid 30 = .ok (.aload_n 0, 1) := by decide +kernel
theorem d_Mo_acid_31 : decode b_Mo_acid 31 = .ok (.getfield 13, 3) := by decide +kernel
theorem d_Mo_acid_34 : decode b_Mo_acid 34 = .ok (.iconst 3, 1) := by decide +kernel
theorem d_Mo_acid_35 : decode b_Mo_acid 35 = .ok (.laload, 1) := by decide +kernel
theorem d_Mo_acid_36 : decode b_Mo_acid 36 = .ok (.lmul, 1) := by decide +kernel
theorem d_Mo_acid_37 : decode b_Mo_acid 37 = .ok (.ladd, 1) := by decide +kernel
theorem d_Mo_acid_38 : decode b_Mo_acid 38 = .ok (.ldc2_w 70, 3) := by decide +kernel
theorem d_Mo_acid_41 : decode b_Mo_acid 41 = .ok (.aload_n 0, 1) := by decide +kernel
theorem d_Mo_acid_42 : decode b_Mo_acid 42 = .ok (.getfield 13, 3) := by decide +kernel
theorem d_Mo_acid_45 : decode b_Mo_acid 45 = .ok (.iconst 2, 1) := by decide +kernel
theorem d_Mo_acid_46 : decode b_Mo_acid 46 = .ok (.laload, 1) := by decide +kernel
theorem d_Mo_acid_47 : decode b_Mo_acid 47 = .ok (.lmul, 1) := by decide +kernel
theorem d_Mo_acid_48 : decode b_Mo_acid 48 = .ok (.lcmp, 1) := by decide +kernel
theorem d_Mo_acid_49 : decode b_Mo_acid 49 = .ok (.ifCond .gt 7, 3) := by decide +kernel
theorem d_Mo_acid_52 : decode b_Mo_acid 52 = .ok (.iconst 1, 1) := by decide +kernel
theorem d_Mo_acid_53 : decode b_Mo_acid 53 = .ok (.goto 4, 3) := by decide +kernel
theorem d_Mo_acid_56 : decode b_Mo_acid 56 = .ok (.iconst 0, 1) := by decide +kernel
theorem d_Mo_acid_57 : decode b_Mo_acid 57 = .ok (.istore 7, 2) := by decide +kernel
theorem d_Mo_acid_59 : decode b_Mo_acid 59 = .ok (.iload 7, 2) := by decide +kernel
theorem d_Mo_acid_61 : decode b_Mo_acid 61 = .ok (.ifCond .eq 8, 3) := by decide +kernel
theorem d_Mo_acid_64 : decode b_Mo_acid 64 = .ok (.lload 5, 2) := by decide +kernel
theorem d_Mo_acid_66 : decode b_Mo_acid 66 = .ok (.goto 4, 3) := by decide +kernel
theorem d_Mo_acid_69 : decode b_Mo_acid 69 = .ok (.lload_n 1, 1) := by decide +kernel
theorem d_Mo_acid_70 : decode b_Mo_acid 70 = .ok (.lstore_n 1, 1) := by decide +kernel
theorem d_Mo_acid_71 : decode b_Mo_acid 71 = .ok (.iload 7, 2) := by decide +kernel
theorem d_Mo_acid_73 : decode b_Mo_acid 73 = .ok (.ifCond .eq 7, 3) := by decide +kernel
theorem d_Mo_acid_76 : decode b_Mo_acid 76 = .ok (.lload_n 3, 1) := by decide +kernel
theorem d_Mo_acid_77 : decode b_Mo_acid 77 = .ok (.goto 7, 3) := by decide +kernel
theorem d_Mo_acid_80 : decode b_Mo_acid 80 = .ok (.lload 5, 2) := by decide +kernel
theorem d_Mo_acid_82 : decode b_Mo_acid 82 = .ok (.lconst 1, 1) := by decide +kernel
theorem d_Mo_acid_83 : decode b_Mo_acid 83 = .ok (.lsub, 1) := by decide +kernel
theorem d_Mo_acid_84 : decode b_Mo_acid 84 = .ok (.lstore_n 3, 1) := by decide +kernel
theorem d_Mo_acid_85 : decode b_Mo_acid 85 = .ok (.goto (-79), 3) := by decide +kernel
theorem d_Mo_acid_88 : decode b_Mo_acid 88 = .ok (.lload_n 1, 1) := by decide +kernel
theorem d_Mo_acid_89 : decode b_Mo_acid 89 = .ok (.l2i, 1) := by decide +kernel
theorem d_Mo_acid_90 : decode b_Mo_acid 90 = .ok (.ireturn, 1) := by decide +kernel
theorem d_Mo_sour_0 : decode b_Mo_sour 0 = .ok (.iconst 0, 1) := by decide +kernel
theorem d_Mo_sour_1 : decode b_Mo_sour 1 = .ok (.istore_n 3, 1) := by decide +kernel
theorem d_Mo_sour_2 : decode b_Mo_sour 2 = .ok (.iload_n 3, 1) := by decide +kernel
theorem d_Mo_sour_3 : decode b_Mo_sour 3 = .ok (.aload_n 0, 1) := by decide +kernel
theorem d_Mo_sour_4 : decode b_Mo_sour 4 = .ok (.getfield 79, 3) := by decide +kernel
theorem d_Mo_sour_7 : decode b_Mo_sour 7 = .ok (.if_icmp .ge 28, 3) := by decide +kernel
theorem d_Mo_sour_10 : decode b_Mo_sour 10 = .ok (.lload_n 1, 1) := by decide +kernel
theorem d_Mo_sour_11 : decode b_Mo_sour 11 = .ok (.lconst 0, 1) := by decide +kernel
theorem d_Mo_sour_12 : decode b_Mo_sour 12 = .ok (.lcmp, 1) := by decide +kernel
theorem d_Mo_sour_13 : decode b_Mo_sour 13 = .ok (.ifCond .lt 22, 3) := by decide +kernel
theorem d_Mo_sour_16 : decode b_Mo_sour 16 = .ok (.aload_n 0, 1) := by decide +kernel
theorem d_Mo_sour_17 : decode b_Mo_sour 17 = .ok (.getfield 44, 3) := by decide +kernel
theorem d_Mo_sour_20 : decode b_Mo_sour 20 = .ok (.iload_n 3, 1) := by decide +kernel
theorem d_Mo_sour_21 : decode b_Mo_sour 21 = .ok (.laload, 1) := by decide +kernel
theorem d_Mo_sour_22 : decode b_Mo_sour 22 = .ok (.lload_n 1, 1) := by decide +kernel
theorem d_Mo_sour_23 : decode b_Mo_sour 23 = .ok (.lcmp, 1) := by decide +kernel
theorem d_Mo_sour_24 : decode b_Mo_sour 24 = .ok (.ifCond .le 5, 3) := by decide +kernel
theorem d_Mo_sour_27 : decode b_Mo_sour 27 = .ok (.iload_n 3, 1) := by decide +kernel
theorem d_Mo_sour_28 : decode b_Mo_sour 28 = .ok (.ireturn, 1) := by decide +kernel
theorem d_Mo_sour_29 : decode b_Mo_sour 29 = .ok (.iinc 3 1, 3) := by decide +kernel
theorem d_Mo_sour_32 : decode b_Mo_sour 32 = .ok (.goto (-30), 3) := by decide +kernel
theorem d_Mo_sour_35 : decode b_Mo_sour 35 = .ok (.iconst (-1), 1) := by decide +kernel
theorem d_Mo_sour_36 : decode b_Mo_sour 36 = .ok (.ireturn, 1) := by decide +kernel
theorem d_Mo_load_0 : decode b_Mo_load 0 = .ok (.iload_n 1, 1) := by decide +kernel
theorem d_Mo_load_1 : decode b_Mo_load 1 = .ok (.invokestatic 60, 3) := by decide +kernel
theorem d_Mo_load_4 : decode b_Mo_load 4 = .ok (.ifCond .eq 40, 3) := by decide +kernel
theorem d_Mo_load_7 : decode b_Mo_load 7 = .ok (.iload_n 2, 1) := by decide +kernel
theorem d_Mo_load_8 : decode b_Mo_load 8 = .ok (.i2l, 1) := by decide +kernel
theorem d_Mo_load_9 : decode b_Mo_load 9 = .ok (.lconst 1, 1) := by decide +kernel
theorem d_Mo_load_10 : decode b_Mo_load 10 = .ok (.ldc2_w 85, 3) := by decide +kernel
theorem d_Mo_load_13 : decode b_Mo_load 13 = .ok (.invokestatic 66, 3) := by decide +kernel
theorem d_Mo_load_16 : decode b_Mo_load 16 = .ok (.ifCond .eq 28, 3) := by decide +kernel
theorem d_Mo_load_19 : decode b_Mo_load 19 = .ok (.iload_n 3, 1) := by decide +kernel
theorem d_Mo_load_20 : decode b_Mo_load 20 = .ok (.i2l, 1) := by decide +kernel
theorem d_Mo_load_21 : decode b_Mo_load 21 = .ok (.lconst 0, 1) := by decide +kernel
theorem d_Mo_load_22 : decode b_Mo_load 22 = .ok (.ldc2_w 85, 3) := by decide +kernel
theorem d_Mo_load_25 : decode b_Mo_load 25 = .ok (.invokestatic 66, 3) := by decide +kernel
theorem d_Mo_load_28 : decode b_Mo_load 28 = .ok (.ifCond .eq 16, 3) := by decide +kernel
theorem d_Mo_load_31 : decode b_Mo_load 31 = .ok (.iload 4, 2) := by decide +kernel
theorem d_Mo_load_33 : decode b_Mo_load 33 = .ok (.i2l, 1) := by decide +kernel
theorem d_Mo_load_34 : decode b_Mo_load 34 = .ok (.lconst 0, 1) := by decide +kernel
theorem d_Mo_load_35 : decode b_Mo_load 35 = .ok (.ldc2_w 85, 3) := by decide +kernel
theorem d_Mo_load_38 : decode b_Mo_load 38 = .ok (.invokestatic 66, 3) := by decide +kernel
theorem d_Mo_load_41 : decode b_Mo_load 41 = .ok (.ifCond .ne 5, 3) := by decide +kernel
theorem d_Mo_load_44 : decode b_Mo_load 44 = .ok (.iconst 0, 1) := by decide +kernel
theorem d_Mo_load_45 : decode b_Mo_load 45 = .ok (.ireturn, 1) := by decide +kernel
theorem d_Mo_load_46 : decode b_Mo_load 46 = .ok (.aload_n 0, 1) := by decide +kernel
theorem d_Mo_load_47 : decode b_Mo_load 47 = .ok (.getfield 47, 3) := by decide +kernel
theorem d_Mo_load_50 : decode b_Mo_load 50 = .ok (.iload_n 1, 1) := by decide +kernel
theorem d_Mo_load_51 : decode b_Mo_load 51 = .ok (.iconst 1, 1) := by decide +kernel
theorem d_Mo_load_52 : decode b_Mo_load 52 = .ok (.bastore, 1) := by decide +kernel
theorem d_Mo_load_53 : decode b_Mo_load 53 = .ok (.aload_n 0, 1) := by decide +kernel
theorem d_Mo_load_54 : decode b_Mo_load 54 = .ok (.getfield 51, 3) := by decide +kernel
theorem d_Mo_load_57 : decode b_Mo_load 57 = .ok (.iload_n 1, 1) := by decide +kernel
theorem d_Mo_load_58 : decode b_Mo_load 58 = .ok (.iload_n 2, 1) := by decide +kernel
theorem d_Mo_load_59 : decode b_Mo_load 59 = .ok (.iastore, 1) := by decide +kernel
theorem d_Mo_load_60 : decode b_Mo_load 60 = .ok (.aload_n 0, 1) := by decide +kernel
theorem d_Mo_load_61 : decode b_Mo_load 61 = .ok (.getfield 54, 3) := by decide +kernel
theorem d_Mo_load_64 : decode b_Mo_load 64 = .ok (.iload_n 1, 1) := by decide +kernel
theorem d_Mo_load_65 : decode b_Mo_load 65 = .ok (.iload_n 3, 1) := by decide +kernel
theorem d_Mo_load_66 : decode b_Mo_load 66 = .ok (.iastore, 1) := by decide +kernel
theorem d_Mo_load_67 : decode b_Mo_load 67 = .ok (.aload_n 0, 1) := by decide +kernel
theorem d_Mo_load_68 : decode b_Mo_load 68 = .ok (.getfield 57, 3) := by decide +kernel
theorem d_Mo_load_71 : decode b_Mo_load 71 = .ok (.iload_n 1, 1) := by decide +kernel
theorem d_Mo_load_72 : decode b_Mo_load 72 = .ok (.iload 4, 2) := by decide +kernel
theorem d_Mo_load_74 : decode b_Mo_load 74 = .ok (.iastore, 1) := by decide +kernel
theorem d_Mo_load_75 : decode b_Mo_load 75 = .ok (.iconst 1, 1) := by decide +kernel
theorem d_Mo_load_76 : decode b_Mo_load 76 = .ok (.ireturn, 1) := by decide +kernel
theorem d_Mo_planned_0 : decode b_Mo_planned 0 = .ok (.aload_n 0, 1) := by decide +kernel
theorem d_Mo_planned_1 : decode b_Mo_planned 1 = .ok (.getfield 127, 3) := by decide +kernel
theorem d_Mo_planned_4 : decode b_Mo_planned 4 = .ok (.ifCond .eq 21, 3) := by decide +kernel
theorem d_Mo_planned_7 : decode b_Mo_planned 7 = .ok (.iload_n 1, 1) := by decide +kernel
theorem d_Mo_planned_8 : decode b_Mo_planned 8 = .ok (.invokestatic 60, 3) := by decide +kernel
theorem d_Mo_planned_11 : decode b_Mo_planned 11 = .ok (.ifCond .eq 14, 3) := by decide +kernel
theorem d_Mo_planned_14 : decode b_Mo_planned 14 = .ok (.aload_n 0, 1) := by decide +kernel
theorem d_Mo_planned_15 : decode b_Mo_planned 15 = .ok (.getfield 131, 3) := by decide +kernel
theorem d_Mo_planned_18 : decode b_Mo_planned 18 = .ok (.iload_n 1, 1) := by decide +kernel
theorem d_Mo_planned_19 : decode b_Mo_planned 19 = .ok (.invokestatic 123, 3) := by decide +kernel
theorem d_Mo_planned_22 : decode b_Mo_planned 22 = .ok (.goto 4, 3) := by decide +kernel
theorem d_Mo_planned_25 : decode b_Mo_planned 25 = .ok (.iconst (-1), 1) := by decide +kernel
theorem d_Mo_planned_26 : decode b_Mo_planned 26 = .ok (.ireturn, 1) := by decide +kernel
def f_Mo_isIn (p1 : Int64) (p2 : Int64) (p3 : Int64) : Int32 := if (lg_cmp p1 p2) < 0 then (0) else (if 0 < (lg_cmp p1 p3) then (0) else (1))
abbrev rm_Mo_isIn : Room := { frames := 0, cells := 0, slots := 0, locals := 0 }
set_option maxHeartbeats 4000000 in
set_option maxRecDepth 100000 in
theorem c_Mo_isIn (l : Launch) (dC : Nat → ClassId) (dI : Nat → Nat → Nat) (cI cL cZ : ClassId) (sz : Nat) (p1 : Int64) (p2 : Int64) (p3 : Int64) : Met l y_Mo_isIn w_Mo_isIn rm_Mo_isIn (va_Pc [.long p1, .long p2, .long p3] (c_pre dC dI cI cL cZ [] sz)) (va_Qi (fun (r : Int32) (_ : Unit) => f_Mo_isIn p1 p2 p3 = r) (c_post dC dI (fun (u : Unit) => []) (va_A [] sz)) (va_A [] sz)) 0 0 (va_A [] sz) := by
  refine Met.ofW (cc := b_Mo_isIn) (maxL := 6) (ret := (some .boolean)) (by decide) rfl ?_
  intro p e s m args below meth c s₁ B hml hv
  obtain ⟨rfl, hsz, hP, hK, hN, hD0⟩ := hv
  have hx := B.exec
  have hb := B.bytes
  have hr := B.returns
  have hts := atoms_spec (ws := w_Mo_isIn) B.pre
  have hown : s.vm.findClass R_Mo = some m.cls := findClass_of_methodNamed B.named
  have hlocks := B.notSynchronized
  have hwg : ∀ w ∈ wg, w.before ([.long p1, .long p2, .long p3] : List Value).toArray s = true := fun w h => hts w (List.mem_cons_of_mem _ h)
  subst hsz
  have hD := hD0.self (sz := s.heap.size)
  generalize hAe : va_A [] s.heap.size = A at hD ⊢
  have hA : ∀ q : Nat, s.heap.size ≤ q → A q := fun q h => by rw [← hAe]; exact Or.inr h
  have hS : va_S A s.heap s.heap [] := va_S.rf
  have hP : va_P (dC, dI) vwCl [] s.heap := hP
  have hl := lv_entry ([.long p1, .long p2, .long p3]) (n := 6) (Nat.le_of_ble_eq_true rfl)
  rw [lg_entry_eq]
  generalize (lg_sl ([.long p1, .long p2, .long p3]) ++ List.replicate (6 - (lg_sl ([.long p1, .long p2, .long p3])).length) Slot.unset).toArray = ls at hl ⊢
  have hl : lv_has ls 6 [(0, .long p1), (2, .long p2), (4, .long p3)] := hl
  refine lv_lload_n hx hb d_Mo_isIn_0 rfl (lv_at hl 0 rfl) ?_
  refine lv_lload_n hx hb d_Mo_isIn_1 rfl (lv_at hl 1 rfl) ?_
  refine W.lcmp hx hb d_Mo_isIn_2 ?_
  refine lv_if_lt (tgt := 17) hx hb d_Mo_isIn_3 (by decide) (fun (c3 : (lg_cmp p1 p2) < 0) => ?_) (fun (c3 : ¬ ((lg_cmp p1 p2) < 0)) => ?_)
  · refine lv_iconst (v := 0) hx hb d_Mo_isIn_17 (by decide) ?_
    have hP9 := hP.sub (ws' := []) [] rfl
    have hD9 := hD.sub (ws' := []) [] (by decide) rfl
    exact W.zret (ty := .boolean) (v := 0) hx hb hr rfl (fun t ht hW => ⟨⟨0, (), rfl, by simp only [f_Mo_isIn, if_pos c3], by rw [ht]; exact hP9, hD9⟩, hS.F ht⟩) hS.2.2 d_Mo_isIn_18
  · refine lv_lload_n hx hb d_Mo_isIn_6 rfl (lv_at hl 0 rfl) ?_
    refine lv_lload hx hb d_Mo_isIn_7 (lv_at hl 2 rfl) ?_
    refine W.lcmp hx hb d_Mo_isIn_9 ?_
    refine lv_if_gt (tgt := 17) hx hb d_Mo_isIn_10 (by decide) (fun (c10 : 0 < (lg_cmp p1 p3)) => ?_) (fun (c10 : ¬ (0 < (lg_cmp p1 p3))) => ?_)
    · refine lv_iconst (v := 0) hx hb d_Mo_isIn_17 (by decide) ?_
      have hP9 := hP.sub (ws' := []) [] rfl
      have hD9 := hD.sub (ws' := []) [] (by decide) rfl
      exact W.zret (ty := .boolean) (v := 0) hx hb hr rfl (fun t ht hW => ⟨⟨0, (), rfl, by simp only [f_Mo_isIn, if_neg c3, if_pos c10], by rw [ht]; exact hP9, hD9⟩, hS.F ht⟩) hS.2.2 d_Mo_isIn_18
    · refine lv_iconst (v := 1) hx hb d_Mo_isIn_13 (by decide) ?_
      refine lv_goto (tgt := 18) hx hb d_Mo_isIn_14 (by decide) ?_
      have hP9 := hP.sub (ws' := []) [] rfl
      have hD9 := hD.sub (ws' := []) [] (by decide) rfl
      exact W.zret (ty := .boolean) (v := 1) hx hb hr rfl (fun t ht hW => ⟨⟨1, (), rfl, by simp only [f_Mo_isIn, if_neg c3, if_neg c10], by rw [ht]; exact hP9, hD9⟩, hS.F ht⟩) hS.2.2 d_Mo_isIn_18
def f_Mo_isKind (p1 : Int32) : Int32 := if p1 < 0 then (0) else (if 4 ≤ p1 then (0) else (1))
abbrev rm_Mo_isKind : Room := { frames := 0, cells := 0, slots := 0, locals := 0 }
set_option maxHeartbeats 4000000 in
set_option maxRecDepth 100000 in
theorem c_Mo_isKind (l : Launch) (dC : Nat → ClassId) (dI : Nat → Nat → Nat) (cI cL cZ : ClassId) (sz : Nat) (p1 : Int32) : Met l y_Mo_isKind w_Mo_isKind rm_Mo_isKind (va_Pc [.int p1] (c_pre dC dI cI cL cZ [] sz)) (va_Qi (fun (r : Int32) (_ : Unit) => f_Mo_isKind p1 = r) (c_post dC dI (fun (u : Unit) => []) (va_A [] sz)) (va_A [] sz)) 0 0 (va_A [] sz) := by
  refine Met.ofW (cc := b_Mo_isKind) (maxL := 1) (ret := (some .boolean)) (by decide) rfl ?_
  intro p e s m args below meth c s₁ B hml hv
  obtain ⟨rfl, hsz, hP, hK, hN, hD0⟩ := hv
  have hx := B.exec
  have hb := B.bytes
  have hr := B.returns
  have hts := atoms_spec (ws := w_Mo_isKind) B.pre
  have hown : s.vm.findClass R_Mo = some m.cls := findClass_of_methodNamed B.named
  have hlocks := B.notSynchronized
  have hwg : ∀ w ∈ wg, w.before ([.int p1] : List Value).toArray s = true := fun w h => hts w (List.mem_cons_of_mem _ h)
  subst hsz
  have hD := hD0.self (sz := s.heap.size)
  generalize hAe : va_A [] s.heap.size = A at hD ⊢
  have hA : ∀ q : Nat, s.heap.size ≤ q → A q := fun q h => by rw [← hAe]; exact Or.inr h
  have hS : va_S A s.heap s.heap [] := va_S.rf
  have hP : va_P (dC, dI) vwCl [] s.heap := hP
  have hl := lv_entry ([.int p1]) (n := 1) (Nat.le_of_ble_eq_true rfl)
  rw [lg_entry_eq]
  generalize (lg_sl ([.int p1]) ++ List.replicate (1 - (lg_sl ([.int p1])).length) Slot.unset).toArray = ls at hl ⊢
  have hl : lv_has ls 1 [(0, .int p1)] := hl
  refine lv_iload_n hx hb d_Mo_isKind_0 rfl (lv_at hl 0 rfl) ?_
  refine lv_if_lt (tgt := 13) hx hb d_Mo_isKind_1 (by decide) (fun (c1 : p1 < 0) => ?_) (fun (c1 : ¬ (p1 < 0)) => ?_)
  · refine lv_iconst (v := 0) hx hb d_Mo_isKind_13 (by decide) ?_
    have hP9 := hP.sub (ws' := []) [] rfl
    have hD9 := hD.sub (ws' := []) [] (by decide) rfl
    exact W.zret (ty := .boolean) (v := 0) hx hb hr rfl (fun t ht hW => ⟨⟨0, (), rfl, by simp only [f_Mo_isKind, if_pos c1], by rw [ht]; exact hP9, hD9⟩, hS.F ht⟩) hS.2.2 d_Mo_isKind_14
  · refine lv_iload_n hx hb d_Mo_isKind_4 rfl (lv_at hl 0 rfl) ?_
    refine lv_iconst (v := 4) hx hb d_Mo_isKind_5 (by decide) ?_
    refine lv_icmp_ge (tgt := 13) hx hb d_Mo_isKind_6 (by decide) (fun (c6 : 4 ≤ p1) => ?_) (fun (c6 : ¬ (4 ≤ p1)) => ?_)
    · refine lv_iconst (v := 0) hx hb d_Mo_isKind_13 (by decide) ?_
      have hP9 := hP.sub (ws' := []) [] rfl
      have hD9 := hD.sub (ws' := []) [] (by decide) rfl
      exact W.zret (ty := .boolean) (v := 0) hx hb hr rfl (fun t ht hW => ⟨⟨0, (), rfl, by simp only [f_Mo_isKind, if_neg c1, if_pos c6], by rw [ht]; exact hP9, hD9⟩, hS.F ht⟩) hS.2.2 d_Mo_isKind_14
    · refine lv_iconst (v := 1) hx hb d_Mo_isKind_9 (by decide) ?_
      refine lv_goto (tgt := 14) hx hb d_Mo_isKind_10 (by decide) ?_
      have hP9 := hP.sub (ws' := []) [] rfl
      have hD9 := hD.sub (ws' := []) [] (by decide) rfl
      exact W.zret (ty := .boolean) (v := 1) hx hb hr rfl (fun t ht hW => ⟨⟨1, (), rfl, by simp only [f_Mo_isKind, if_neg c1, if_neg c6], by rw [ht]; exact hP9, hD9⟩, hS.F ht⟩) hS.2.2 d_Mo_isKind_14
def f_Mo_timesOf (p1 : Int32) (p2 : Int32) : Int32 := if p2 = 0 then (p1 / 1000) else (if p2 = 1 then ((p1 / 100) - (p1 / 100) / 10 * 10) else (if p2 = 2 then ((p1 / 10) - (p1 / 10) / 10 * 10) else (p1 - p1 / 10 * 10)))
abbrev rm_Mo_timesOf : Room := { frames := 0, cells := 0, slots := 0, locals := 0 }
set_option maxHeartbeats 4000000 in
set_option maxRecDepth 100000 in
theorem c_Mo_timesOf (l : Launch) (dC : Nat → ClassId) (dI : Nat → Nat → Nat) (cI cL cZ : ClassId) (sz : Nat) (p1 : Int32) (p2 : Int32) : Met l y_Mo_timesOf w_Mo_timesOf rm_Mo_timesOf (va_Pc [.int p1, .int p2] (c_pre dC dI cI cL cZ [] sz)) (va_Qi (fun (r : Int32) (_ : Unit) => f_Mo_timesOf p1 p2 = r) (c_post dC dI (fun (u : Unit) => []) (va_A [] sz)) (va_A [] sz)) 0 0 (va_A [] sz) := by
  refine Met.ofW (cc := b_Mo_timesOf) (maxL := 2) (ret := (some .int)) (by decide) rfl ?_
  intro p e s m args below meth c s₁ B hml hv
  obtain ⟨rfl, hsz, hP, hK, hN, hD0⟩ := hv
  have hx := B.exec
  have hb := B.bytes
  have hr := B.returns
  have hts := atoms_spec (ws := w_Mo_timesOf) B.pre
  have hown : s.vm.findClass R_Mo = some m.cls := findClass_of_methodNamed B.named
  have hlocks := B.notSynchronized
  have hwg : ∀ w ∈ wg, w.before ([.int p1, .int p2] : List Value).toArray s = true := fun w h => hts w (List.mem_cons_of_mem _ h)
  subst hsz
  have hD := hD0.self (sz := s.heap.size)
  generalize hAe : va_A [] s.heap.size = A at hD ⊢
  have hA : ∀ q : Nat, s.heap.size ≤ q → A q := fun q h => by rw [← hAe]; exact Or.inr h
  have hS : va_S A s.heap s.heap [] := va_S.rf
  have hP : va_P (dC, dI) vwCl [] s.heap := hP
  have hl := lv_entry ([.int p1, .int p2]) (n := 2) (Nat.le_of_ble_eq_true rfl)
  rw [lg_entry_eq]
  generalize (lg_sl ([.int p1, .int p2]) ++ List.replicate (2 - (lg_sl ([.int p1, .int p2])).length) Slot.unset).toArray = ls at hl ⊢
  have hl : lv_has ls 2 [(0, .int p1), (1, .int p2)] := hl
  refine lv_iload_n hx hb d_Mo_timesOf_0 rfl (lv_at hl 1 rfl) ?_
  refine lv_if_ne (tgt := 12) hx hb d_Mo_timesOf_1 (by decide) (fun (c1 : ¬ (p2 = 0)) => ?_) (fun (c1 : p2 = 0) => ?_)
  · refine lv_iload_n hx hb d_Mo_timesOf_12 rfl (lv_at hl 1 rfl) ?_
    refine lv_iconst (v := 1) hx hb d_Mo_timesOf_13 (by decide) ?_
    refine lv_icmp_ne (tgt := 27) hx hb d_Mo_timesOf_14 (by decide) (fun (c14 : ¬ (p2 = 1)) => ?_) (fun (c14 : p2 = 1) => ?_)
    · refine lv_iload_n hx hb d_Mo_timesOf_27 rfl (lv_at hl 1 rfl) ?_
      refine lv_iconst (v := 2) hx hb d_Mo_timesOf_28 (by decide) ?_
      refine lv_icmp_ne (tgt := 42) hx hb d_Mo_timesOf_29 (by decide) (fun (c29 : ¬ (p2 = 2)) => ?_) (fun (c29 : p2 = 2) => ?_)
      · refine lv_iload_n hx hb d_Mo_timesOf_42 rfl (lv_at hl 0 rfl) ?_
        refine lv_bipush (v := 10) hx hb d_Mo_timesOf_43 (by decide) ?_
        refine lv_irem hx hb d_Mo_timesOf_45 (by decide) ?_
        have hP9 := hP.sub (ws' := []) [] rfl
        have hD9 := hD.sub (ws' := []) [] (by decide) rfl
        exact W.iret (v := p1 - p1 / 10 * 10) hx hb hr (fun t ht hW => ⟨⟨p1 - p1 / 10 * 10, (), rfl, by simp only [f_Mo_timesOf, if_neg c1, if_neg c14, if_neg c29], by rw [ht]; exact hP9, hD9⟩, hS.F ht⟩) hS.2.2 d_Mo_timesOf_46
      · refine lv_iload_n hx hb d_Mo_timesOf_32 rfl (lv_at hl 0 rfl) ?_
        refine lv_bipush (v := 10) hx hb d_Mo_timesOf_33 (by decide) ?_
        refine lv_idiv hx hb d_Mo_timesOf_35 (by decide) ?_
        refine lv_bipush (v := 10) hx hb d_Mo_timesOf_36 (by decide) ?_
        refine lv_irem hx hb d_Mo_timesOf_38 (by decide) ?_
        refine lv_goto (tgt := 46) hx hb d_Mo_timesOf_39 (by decide) ?_
        have hP9 := hP.sub (ws' := []) [] rfl
        have hD9 := hD.sub (ws' := []) [] (by decide) rfl
        exact W.iret (v := (p1 / 10) - (p1 / 10) / 10 * 10) hx hb hr (fun t ht hW => ⟨⟨(p1 / 10) - (p1 / 10) / 10 * 10, (), rfl, by simp only [f_Mo_timesOf, if_neg c1, if_neg c14, if_pos c29], by rw [ht]; exact hP9, hD9⟩, hS.F ht⟩) hS.2.2 d_Mo_timesOf_46
    · refine lv_iload_n hx hb d_Mo_timesOf_17 rfl (lv_at hl 0 rfl) ?_
      refine lv_bipush (v := 100) hx hb d_Mo_timesOf_18 (by decide) ?_
      refine lv_idiv hx hb d_Mo_timesOf_20 (by decide) ?_
      refine lv_bipush (v := 10) hx hb d_Mo_timesOf_21 (by decide) ?_
      refine lv_irem hx hb d_Mo_timesOf_23 (by decide) ?_
      refine lv_goto (tgt := 46) hx hb d_Mo_timesOf_24 (by decide) ?_
      have hP9 := hP.sub (ws' := []) [] rfl
      have hD9 := hD.sub (ws' := []) [] (by decide) rfl
      exact W.iret (v := (p1 / 100) - (p1 / 100) / 10 * 10) hx hb hr (fun t ht hW => ⟨⟨(p1 / 100) - (p1 / 100) / 10 * 10, (), rfl, by simp only [f_Mo_timesOf, if_neg c1, if_pos c14], by rw [ht]; exact hP9, hD9⟩, hS.F ht⟩) hS.2.2 d_Mo_timesOf_46
  · refine lv_iload_n hx hb d_Mo_timesOf_4 rfl (lv_at hl 0 rfl) ?_
    refine lv_sipush (v := 1000) hx hb d_Mo_timesOf_5 (by decide) ?_
    refine lv_idiv hx hb d_Mo_timesOf_8 (by decide) ?_
    refine lv_goto (tgt := 46) hx hb d_Mo_timesOf_9 (by decide) ?_
    have hP9 := hP.sub (ws' := []) [] rfl
    have hD9 := hD.sub (ws' := []) [] (by decide) rfl
    exact W.iret (v := p1 / 1000) hx hb hr (fun t ht hW => ⟨⟨p1 / 1000, (), rfl, by simp only [f_Mo_timesOf, if_pos c1], by rw [ht]; exact hP9, hD9⟩, hS.F ht⟩) hS.2.2 d_Mo_timesOf_46
/-! the reference's helpers -/
theorem t64_0 : (0 : Int64).toInt = 0 := by decide
theorem t64_1 : (1 : Int64).toInt = 1 := by decide
theorem t64_2 : (2 : Int64).toInt = 2 := by decide
theorem t64_3 : (3 : Int64).toInt = 3 := by decide
theorem t64_1000 : (1000 : Int64).toInt = 1000 := by decide
theorem isIn_01 (a b c : Int64) : f_Mo_isIn a b c = 0 ∨ f_Mo_isIn a b c = 1 := by
  unfold f_Mo_isIn; split
  · exact Or.inl rfl
  · split
    · exact Or.inl rfl
    · exact Or.inr rfl
theorem f_isIn_nar {a b c : Int64} {r : Int32} (h : f_Mo_isIn a b c = r) : narrow .boolean (.int r) = .int r := by
  rw [← h]; rcases isIn_01 a b c with q | q <;> rw [q] <;> rfl
theorem isIn_t {a b c : Int64} {r : Int32} (w : f_Mo_isIn a b c = r) (h : ¬ r = 0) : b.toInt ≤ a.toInt ∧ a.toInt ≤ c.toInt := by
  rw [← w] at h; unfold f_Mo_isIn at h
  split at h
  · exact absurd rfl h
  · split at h
    · exact absurd rfl h
    · rename_i h1 h2
      rw [lg_cmp_lt, Int64.lt_iff_toInt_lt] at h1
      rw [lg_cmp_gt, Int64.lt_iff_toInt_lt] at h2
      omega
theorem ext_i (x : Int32) : (Int32.toInt64 x).toInt = x.toInt := Int32.toInt_toInt64 x
theorem in_is2 {p r : Int32} (w : f_Mo_isIn (Int32.toInt64 p) 0 2 = r) (c : ¬ r = 0) : vp_in p 3 := by
  have h := isIn_t w c
  rw [ext_i, t64_0, t64_2] at h; rw [vp_in_iff]; omega
theorem in_is3 {p r : Int32} (w : f_Mo_isIn (Int32.toInt64 p) 0 3 = r) (c : ¬ r = 0) : vp_in p 4 := by
  have h := isIn_t w c
  rw [ext_i, t64_0, t64_3] at h; rw [vp_in_iff]; omega
theorem in_is1000 {p r : Int32} (w : f_Mo_isIn (Int32.toInt64 p) 1 1000 = r) (c : ¬ r = 0) : vp_in p 1001 := by
  have h := isIn_t w c
  rw [ext_i, t64_1, t64_1000] at h; rw [vp_in_iff]; omega
theorem in_at {p : Int32} (c : ¬ p < 0) (c2 : ¬ 4 ≤ p) : vp_in p 4 := by
  rw [Int32.lt_iff_toInt_lt, t_0] at c; rw [Int32.le_iff_toInt_le, t_4] at c2; rw [vp_in_iff]; omega
theorem in_mKind {p r : Int32} (w : f_Mo_isKind p = r) (c : ¬ r = 0) : vp_in p 4 := by
  rw [← w] at c; unfold f_Mo_isKind at c
  split at c
  · exact absurd rfl c
  · split at c
    · exact absurd rfl c
    · rename_i h1 h2; exact in_at h1 h2
theorem in_shm {a b : Int32} (ha : vp_in a 4) (hb : vp_in b 3) : vp_in (3 * a + b) 12 := by
  rw [Int32.mul_comm]; exact in_sh ha hb
theorem in_shm0 {a : Int32} (ha : vp_in a 4) : vp_in (3 * a) 12 := by
  have h := in_shm ha (b := 0) (by unfold vp_in; decide)
  rw [Int32.add_zero] at h; exact h
theorem in_fe {x : Int32} (h : vp_in x 31) (c : ¬ x = 30) : vp_in x 30 := by
  have h0 : ¬ x.toInt = 30 := fun q => c (Int32.toInt_inj.mp (by rw [q, t_30]))
  rw [vp_in_iff] at h ⊢; omega
theorem in_mus {x : Int32} (h : vp_in x 5) (c : ¬ x = 4) : vp_in x 4 := by
  have h0 : ¬ x.toInt = 4 := fun q => c (Int32.toInt_inj.mp (by rw [q, t_4]))
  rw [vp_in_iff] at h ⊢; omega
theorem in_r10 {x : Int32} (h : vp_in x 11) (c : ¬ 9 < x) : vp_in (x + 1) 11 := by
  rw [Int32.lt_iff_toInt_lt, t_9] at c; rw [vp_in_iff] at h ⊢
  rw [i_add] <;> rw [t_1] <;> omega
theorem r10_lt {x : Int32} {n : Nat} (h : vp_in x 11) (c : ¬ 9 < x) (hm : 10 - x.toNatClampNeg < n + 1) : 10 - (x + 1).toNatClampNeg < n := by
  rw [Int32.lt_iff_toInt_lt, t_9] at c; rw [vp_in_iff] at h; rw [cl_i] at hm ⊢
  rw [i_add] <;> rw [t_1] <;> omega
theorem in_gv {us p : Int32} (h : vp_in us 5) (c : ¬ p < 0) (c2 : ¬ us ≤ p) : vp_in p 4 := by
  rw [Int32.lt_iff_toInt_lt, t_0] at c; rw [Int32.le_iff_toInt_le] at c2; rw [vp_in_iff] at h ⊢; omega
theorem in_so {iv ne : Int32} (hi : vp_in iv 10001) (hn : vp_in ne 10001) (c : ¬ ne ≤ iv) : vp_in iv 10000 := by
  rw [Int32.le_iff_toInt_le] at c; rw [vp_in_iff] at hi hn ⊢; omega
theorem in_son {iv ne : Int32} (hi : vp_in iv 10001) (hn : vp_in ne 10001) (c : ¬ ne ≤ iv) : vp_in (iv + 1) 10001 := by
  rw [Int32.le_iff_toInt_le] at c; rw [vp_in_iff] at hi hn ⊢
  rw [i_add] <;> rw [t_1] <;> omega
theorem so_lt {iv ne : Int32} {n : Nat} (hi : vp_in iv 10001) (hn : vp_in ne 10001) (c : ¬ ne ≤ iv) (hm : 10000 - iv.toNatClampNeg < n + 1) : 10000 - (iv + 1).toNatClampNeg < n := by
  rw [Int32.le_iff_toInt_le] at c; rw [vp_in_iff] at hi hn; rw [cl_i] at hm ⊢
  rw [i_add] <;> rw [t_1] <;> omega
theorem in_wy {x : Int32} (h : vp_in x 10001) (c : ¬ 10000 ≤ x) : vp_in (x + 1) 10001 := by
  rw [Int32.le_iff_toInt_le, t_10000] at c; rw [vp_in_iff] at h ⊢
  rw [i_add] <;> rw [t_1] <;> omega
theorem wy_lt {x : Int32} {n : Nat} (h : vp_in x 10001) (c : ¬ 10000 ≤ x) (hm : 10000 - x.toNatClampNeg < n + 1) : 10000 - (x + 1).toNatClampNeg < n := by
  rw [Int32.le_iff_toInt_le, t_10000] at c; rw [vp_in_iff] at h; rw [cl_i] at hm ⊢
  rw [i_add] <;> rw [t_1] <;> omega
/-! longs -/
theorem l_add {a b : Int64} (h1 : -9223372036854775808 ≤ a.toInt + b.toInt) (h2 : a.toInt + b.toInt < 9223372036854775808) : (a + b).toInt = a.toInt + b.toInt := by
  rw [Int64.toInt_add]; exact Int.bmod_eq_of_le (by omega) (by omega)
theorem l_sub {a b : Int64} (h1 : -9223372036854775808 ≤ a.toInt - b.toInt) (h2 : a.toInt - b.toInt < 9223372036854775808) : (a - b).toInt = a.toInt - b.toInt := by
  rw [Int64.toInt_sub]; exact Int.bmod_eq_of_le (by omega) (by omega)
theorem l_mul {a b : Int64} (h1 : -9223372036854775808 ≤ a.toInt * b.toInt) (h2 : a.toInt * b.toInt < 9223372036854775808) : (a * b).toInt = a.toInt * b.toInt := by
  rw [Int64.toInt_mul]; exact Int.bmod_eq_of_le (by omega) (by omega)
theorem l_div {a b : Int64} (ha : 0 ≤ a.toInt) (hb : 0 < b.toInt) : (a / b).toInt = a.toInt / b.toInt := by
  have h9 := Int64.toInt_lt a
  have hq : 0 ≤ a.toInt / b.toInt := Int.ediv_nonneg ha (by omega)
  have hq2 : a.toInt / b.toInt ≤ a.toInt := Int.ediv_le_self _ ha
  rw [Int64.toInt_div, Int.tdiv_eq_ediv_of_nonneg ha]
  exact Int.bmod_eq_of_le (by omega) (by omega)
theorem ac_m {lo hi : Int64} (hl : 0 ≤ lo.toInt ∧ lo.toInt ≤ 1000000) (hh : 0 ≤ hi.toInt ∧ hi.toInt ≤ 1000000) : (((lo + hi) + 1) / 2).toInt = (lo.toInt + hi.toInt + 1) / 2 := by
  have e1 : (lo + hi).toInt = lo.toInt + hi.toInt := by rw [l_add] <;> omega
  have e2 : ((lo + hi) + 1).toInt = lo.toInt + hi.toInt + 1 := by rw [l_add] <;> rw [e1, t64_1] <;> omega
  rw [l_div (by rw [e2]; omega) (by rw [t64_2]; omega), e2, t64_2]
theorem ac_mid {lo hi : Int64} (hl : 0 ≤ lo.toInt ∧ lo.toInt ≤ 1000000) (hh : 0 ≤ hi.toInt ∧ hi.toInt ≤ 1000000) (_ : ¬ 0 ≤ lg_cmp lo hi) : 0 ≤ (((lo + hi) + 1) / 2).toInt ∧ (((lo + hi) + 1) / 2).toInt ≤ 1000000 := by
  rw [ac_m hl hh]; omega
theorem ac_mid1 {lo hi : Int64} (hl : 0 ≤ lo.toInt ∧ lo.toInt ≤ 1000000) (hh : 0 ≤ hi.toInt ∧ hi.toInt ≤ 1000000) (c : ¬ 0 ≤ lg_cmp lo hi) : 0 ≤ ((((lo + hi) + 1) / 2) - 1).toInt ∧ ((((lo + hi) + 1) / 2) - 1).toInt ≤ 1000000 := by
  rw [lg_cmp_ge, Int64.le_iff_toInt_le] at c
  have e := ac_m hl hh
  rw [l_sub] <;> rw [e, t64_1] <;> omega
theorem ac_lt1 {lo hi : Int64} {n : Nat} (hl : 0 ≤ lo.toInt ∧ lo.toInt ≤ 1000000) (hh : 0 ≤ hi.toInt ∧ hi.toInt ≤ 1000000) (c : ¬ 0 ≤ lg_cmp lo hi) (hm : (hi.toInt - lo.toInt).toNat < n + 1) : (((((lo + hi) + 1) / 2) - 1).toInt - lo.toInt).toNat < n := by
  rw [lg_cmp_ge, Int64.le_iff_toInt_le] at c
  have e := ac_m hl hh
  have e2 : ((((lo + hi) + 1) / 2) - 1).toInt = (lo.toInt + hi.toInt + 1) / 2 - 1 := by rw [l_sub] <;> rw [e, t64_1] <;> omega
  rw [e2]; omega
theorem ac_lt2 {lo hi : Int64} {n : Nat} (hl : 0 ≤ lo.toInt ∧ lo.toInt ≤ 1000000) (hh : 0 ≤ hi.toInt ∧ hi.toInt ≤ 1000000) (c : ¬ 0 ≤ lg_cmp lo hi) (hm : (hi.toInt - lo.toInt).toNat < n + 1) : (hi.toInt - (((lo + hi) + 1) / 2).toInt).toNat < n := by
  rw [lg_cmp_ge, Int64.le_iff_toInt_le] at c
  rw [ac_m hl hh]; omega
def f_Mo_kind (Msh : Nat → Int32) (p1 : Int32) (p2 : Int32) (p3 : Int32) : Int32 × (Nat → Int32) := let r1 := f_Mo_isKind p1; if r1 = 0 then ((0, Msh)) else (let r13 := f_Mo_isIn (Int32.toInt64 p2) 0 2; if r13 = 0 then ((0, Msh)) else (let r25 := f_Mo_isIn (Int32.toInt64 p3) 0 1000; if r25 = 0 then ((0, Msh)) else (if (((((Msh (Int32.toNatClampNeg (3 * p1))) + (Msh (Int32.toNatClampNeg ((3 * p1) + 1)))) + (Msh (Int32.toNatClampNeg ((3 * p1) + 2)))) - (Msh (Int32.toNatClampNeg ((3 * p1) + p2)))) + p3) ≤ 1000 then ((1, upd Msh (Int32.toNatClampNeg ((3 * p1) + p2)) p3)) else ((0, Msh)))))
abbrev rm_Mo_kind : Room := { frames := 1, cells := 0, slots := 0, locals := 25 }
set_option maxHeartbeats 4000000 in
set_option maxRecDepth 100000 in
theorem c_Mo_kind (l : Launch) (dC : Nat → ClassId) (dI : Nat → Nat → Nat) (cI cL cZ : ClassId) (y0 eS eP eM eK eG eR eN eW eV eA eH eX eY eZ : Nat) (sz : Nat) (Mfe : Int32) (Mbo : Int64) (Mro : Int64) (Mus : Int32) (Mne : Int32) (Mca : Int64) (Mga : Int64) (Mgl : Int64) (Mfl : Int64) (Mst : Int64) (Mhp : Int32) (Mpl : Int32) (Msh : Nat → Int32) (p1 : Int32) (p2 : Int32) (p3 : Int32) : Met l y_Mo_kind w_Mo_kind rm_Mo_kind (va_Pc [.ref y0, .int p1, .int p2, .int p3] (c_pre dC dI cI cL cZ [(y0, .inr (7, [.ref eS, .ref eP, .int Mfe, .ref eM, .ref eK, .ref eG, .ref eR, .long Mbo, .long Mro, .int Mus, .ref eN, .ref eW, .ref eV, .int Mne, .ref eA, .long Mca, .long Mga, .long Mgl, .long Mfl, .long Mst, .ref eH, .ref eX, .ref eY, .ref eZ, .int Mhp, .int Mpl])), (eS, .inl (cI, 12, .inl Msh))] sz)) (va_Qi (fun (r : Int32) (u : (Nat → Int32)) => f_Mo_kind Msh p1 p2 p3 = (r, u)) (c_post dC dI (fun (u : (Nat → Int32)) => [(y0, .inr (7, [.ref eS, .ref eP, .int Mfe, .ref eM, .ref eK, .ref eG, .ref eR, .long Mbo, .long Mro, .int Mus, .ref eN, .ref eW, .ref eV, .int Mne, .ref eA, .long Mca, .long Mga, .long Mgl, .long Mfl, .long Mst, .ref eH, .ref eX, .ref eY, .ref eZ, .int Mhp, .int Mpl])), (eS, .inl (cI, 12, .inl u))]) (va_A [(y0, .inr (7, [.ref eS, .ref eP, .int Mfe, .ref eM, .ref eK, .ref eG, .ref eR, .long Mbo, .long Mro, .int Mus, .ref eN, .ref eW, .ref eV, .int Mne, .ref eA, .long Mca, .long Mga, .long Mgl, .long Mfl, .long Mst, .ref eH, .ref eX, .ref eY, .ref eZ, .int Mhp, .int Mpl])), (eS, .inl (cI, 12, .inl Msh))] sz)) (va_A [(y0, .inr (7, [.ref eS, .ref eP, .int Mfe, .ref eM, .ref eK, .ref eG, .ref eR, .long Mbo, .long Mro, .int Mus, .ref eN, .ref eW, .ref eV, .int Mne, .ref eA, .long Mca, .long Mga, .long Mgl, .long Mfl, .long Mst, .ref eH, .ref eX, .ref eY, .ref eZ, .int Mhp, .int Mpl])), (eS, .inl (cI, 12, .inl Msh))] sz)) 0 0 (va_A [(y0, .inr (7, [.ref eS, .ref eP, .int Mfe, .ref eM, .ref eK, .ref eG, .ref eR, .long Mbo, .long Mro, .int Mus, .ref eN, .ref eW, .ref eV, .int Mne, .ref eA, .long Mca, .long Mga, .long Mgl, .long Mfl, .long Mst, .ref eH, .ref eX, .ref eY, .ref eZ, .int Mhp, .int Mpl])), (eS, .inl (cI, 12, .inl Msh))] sz) := by
  refine Met.ofW (cc := b_Mo_kind) (maxL := 5) (ret := (some .boolean)) (by decide) rfl ?_
  intro p e s m args below meth c s₁ B hml hv
  obtain ⟨rfl, hsz, hP, hK, hN, hD0⟩ := hv
  have hx := B.exec
  have hb := B.bytes
  have hr := B.returns
  have hts := atoms_spec (ws := w_Mo_kind) B.pre
  have hown : s.vm.findClass R_Mo = some m.cls := findClass_of_methodNamed B.named
  have hlocks := B.notSynchronized
  have hwg : ∀ w ∈ wg, w.before ([.ref y0, .int p1, .int p2, .int p3] : List Value).toArray s = true := fun w h => hts w (List.mem_cons_of_mem _ h)
  subst hsz
  have hD := hD0.self (sz := s.heap.size)
  generalize hAe : va_A [(y0, .inr (7, [.ref eS, .ref eP, .int Mfe, .ref eM, .ref eK, .ref eG, .ref eR, .long Mbo, .long Mro, .int Mus, .ref eN, .ref eW, .ref eV, .int Mne, .ref eA, .long Mca, .long Mga, .long Mgl, .long Mfl, .long Mst, .ref eH, .ref eX, .ref eY, .ref eZ, .int Mhp, .int Mpl])), (eS, .inl (cI, 12, .inl Msh))] s.heap.size = A at hD ⊢
  have hA : ∀ q : Nat, s.heap.size ≤ q → A q := fun q h => by rw [← hAe]; exact Or.inr h
  have hS : va_S A s.heap s.heap [] := va_S.rf
  have hP : va_P (dC, dI) vwCl [(y0, .inr (7, [.ref eS, .ref eP, .int Mfe, .ref eM, .ref eK, .ref eG, .ref eR, .long Mbo, .long Mro, .int Mus, .ref eN, .ref eW, .ref eV, .int Mne, .ref eA, .long Mca, .long Mga, .long Mgl, .long Mfl, .long Mst, .ref eH, .ref eX, .ref eY, .ref eZ, .int Mhp, .int Mpl])), (eS, .inl (cI, 12, .inl Msh))] s.heap := hP
  have hl := lv_entry ([.ref y0, .int p1, .int p2, .int p3]) (n := 5) (Nat.le_of_ble_eq_true rfl)
  rw [lg_entry_eq]
  generalize (lg_sl ([.ref y0, .int p1, .int p2, .int p3]) ++ List.replicate (5 - (lg_sl ([.ref y0, .int p1, .int p2, .int p3])).length) Slot.unset).toArray = ls at hl ⊢
  have hl : lv_has ls 5 [(0, .ref y0), (1, .int p1), (2, .int p2), (3, .int p3)] := hl
  refine lv_iload_n hx hb d_Mo_kind_0 rfl (lv_at hl 1 rfl) ?_
  have hPc := hP.sub (ws' := []) [] rfl
  have hDc := hD.sub (ws' := []) [] (by decide) rfl
  refine k_calli hP hD hS hA [] [0, 1] (wc := []) (wr := [(y0, .inr (7, [.ref eS, .ref eP, .int Mfe, .ref eM, .ref eK, .ref eG, .ref eR, .long Mbo, .long Mro, .int Mus, .ref eN, .ref eW, .ref eV, .int Mne, .ref eA, .long Mca, .long Mga, .long Mgl, .long Mfl, .long Mst, .ref eH, .ref eX, .ref eY, .ref eZ, .int Mhp, .int Mpl])), (eS, .inl (cI, 12, .inl Msh))]) rfl rfl (by decide) (by decide) (va_runS (As := [.int p1]) (rest := []) ⟨hx, hb, hml, hown, hwg⟩ (c_Mo_isKind l dC dI cI cL cZ s.heap.size p1) (va_cwS 1 hwg (g_S kw_353 kw_354 kw_21 kw_355) rfl rfl rfl (by decide +kernel) ⟨Nat.le_of_ble_eq_true rfl, Nat.le_of_ble_eq_true rfl⟩) ⟨c_pre_call, c_pre_mk hPc hDc hK hN _⟩ rfl rfl hl.1 rfl (lv_room (Nat.le_of_ble_eq_true rfl)) d_Mo_kind_1 ⟨Nat.le_of_ble_eq_true rfl, Nat.le_of_ble_eq_true rfl⟩) (fun r1 u H1 locs w1 hz1 hP hD hS => ?_)
  have hP := hP.sub (ws' := [(y0, .inr (7, [.ref eS, .ref eP, .int Mfe, .ref eM, .ref eK, .ref eG, .ref eR, .long Mbo, .long Mro, .int Mus, .ref eN, .ref eW, .ref eV, .int Mne, .ref eA, .long Mca, .long Mga, .long Mgl, .long Mfl, .long Mst, .ref eH, .ref eX, .ref eY, .ref eZ, .int Mhp, .int Mpl])), (eS, .inl (cI, 12, .inl Msh))]) [0, 1] rfl
  have hD := hD.sub (ws' := [(y0, .inr (7, [.ref eS, .ref eP, .int Mfe, .ref eM, .ref eK, .ref eG, .ref eR, .long Mbo, .long Mro, .int Mus, .ref eN, .ref eW, .ref eV, .int Mne, .ref eA, .long Mca, .long Mga, .long Mgl, .long Mfl, .long Mst, .ref eH, .ref eX, .ref eY, .ref eZ, .int Mhp, .int Mpl])), (eS, .inl (cI, 12, .inl Msh))]) [0, 1] (by decide) rfl
  refine lv_if_eq (tgt := 31) hx hb d_Mo_kind_4 (by decide) (fun (c4 : r1 = 0) => ?_) (fun (c4 : ¬ (r1 = 0)) => ?_)
  · refine lv_iconst (v := 0) hx hb d_Mo_kind_31 (by decide) ?_
    have hP9 := hP.sub (ws' := [(y0, .inr (7, [.ref eS, .ref eP, .int Mfe, .ref eM, .ref eK, .ref eG, .ref eR, .long Mbo, .long Mro, .int Mus, .ref eN, .ref eW, .ref eV, .int Mne, .ref eA, .long Mca, .long Mga, .long Mgl, .long Mfl, .long Mst, .ref eH, .ref eX, .ref eY, .ref eZ, .int Mhp, .int Mpl])), (eS, .inl (cI, 12, .inl Msh))]) [0, 1] rfl
    have hD9 := hD.sub (ws' := [(y0, .inr (7, [.ref eS, .ref eP, .int Mfe, .ref eM, .ref eK, .ref eG, .ref eR, .long Mbo, .long Mro, .int Mus, .ref eN, .ref eW, .ref eV, .int Mne, .ref eA, .long Mca, .long Mga, .long Mgl, .long Mfl, .long Mst, .ref eH, .ref eX, .ref eY, .ref eZ, .int Mhp, .int Mpl])), (eS, .inl (cI, 12, .inl Msh))]) [0, 1] (by decide) rfl
    exact W.zret (ty := .boolean) (v := 0) hx hb hr rfl (fun t ht hW => ⟨⟨0, (Msh), rfl, by simp only [f_Mo_kind, w1, if_pos c4], by rw [ht]; exact hP9, hD9⟩, hS.F ht⟩) hS.2.2 d_Mo_kind_32
  · refine lv_iload_n hx hb d_Mo_kind_7 rfl (lv_at hl 2 rfl) ?_
    refine lv_i2l hx hb d_Mo_kind_8 rfl ?_
    refine lv_lconst (v := 0) hx hb d_Mo_kind_9 (by decide) ?_
    refine lv_ldc2 hx hb hown (hwg _ kw_356) d_Mo_kind_10 ?_
    have hPc := hP.sub (ws' := []) [] rfl
    have hDc := hD.sub (ws' := []) [] (by decide) rfl
    refine k_calli hP hD hS hA [] [0, 1] (wc := []) (wr := [(y0, .inr (7, [.ref eS, .ref eP, .int Mfe, .ref eM, .ref eK, .ref eG, .ref eR, .long Mbo, .long Mro, .int Mus, .ref eN, .ref eW, .ref eV, .int Mne, .ref eA, .long Mca, .long Mga, .long Mgl, .long Mfl, .long Mst, .ref eH, .ref eX, .ref eY, .ref eZ, .int Mhp, .int Mpl])), (eS, .inl (cI, 12, .inl Msh))]) rfl rfl (by decide) (by decide) (va_runS (As := [.long (Int32.toInt64 p2), .long 0, .long 2]) (rest := []) ⟨hx, hb, hml, hown, hwg⟩ (c_Mo_isIn l dC dI cI cL cZ H1.size (Int32.toInt64 p2) 0 2) (va_cwS 3 hwg (g_S kw_357 kw_358 kw_21 kw_359) rfl rfl rfl (by decide +kernel) ⟨Nat.le_of_ble_eq_true rfl, Nat.le_of_ble_eq_true rfl⟩) ⟨c_pre_call, c_pre_mk hPc hDc hK hN _⟩ rfl rfl hl.1 rfl (lv_room (Nat.le_of_ble_eq_true rfl)) d_Mo_kind_13 ⟨Nat.le_of_ble_eq_true rfl, Nat.le_of_ble_eq_true rfl⟩) (fun r13 u H13 locs w13 hz1 hP hD hS => ?_)
    have hP := hP.sub (ws' := [(y0, .inr (7, [.ref eS, .ref eP, .int Mfe, .ref eM, .ref eK, .ref eG, .ref eR, .long Mbo, .long Mro, .int Mus, .ref eN, .ref eW, .ref eV, .int Mne, .ref eA, .long Mca, .long Mga, .long Mgl, .long Mfl, .long Mst, .ref eH, .ref eX, .ref eY, .ref eZ, .int Mhp, .int Mpl])), (eS, .inl (cI, 12, .inl Msh))]) [0, 1] rfl
    have hD := hD.sub (ws' := [(y0, .inr (7, [.ref eS, .ref eP, .int Mfe, .ref eM, .ref eK, .ref eG, .ref eR, .long Mbo, .long Mro, .int Mus, .ref eN, .ref eW, .ref eV, .int Mne, .ref eA, .long Mca, .long Mga, .long Mgl, .long Mfl, .long Mst, .ref eH, .ref eX, .ref eY, .ref eZ, .int Mhp, .int Mpl])), (eS, .inl (cI, 12, .inl Msh))]) [0, 1] (by decide) rfl
    refine lv_if_eq (tgt := 31) hx hb d_Mo_kind_16 (by decide) (fun (c16 : r13 = 0) => ?_) (fun (c16 : ¬ (r13 = 0)) => ?_)
    · refine lv_iconst (v := 0) hx hb d_Mo_kind_31 (by decide) ?_
      have hP9 := hP.sub (ws' := [(y0, .inr (7, [.ref eS, .ref eP, .int Mfe, .ref eM, .ref eK, .ref eG, .ref eR, .long Mbo, .long Mro, .int Mus, .ref eN, .ref eW, .ref eV, .int Mne, .ref eA, .long Mca, .long Mga, .long Mgl, .long Mfl, .long Mst, .ref eH, .ref eX, .ref eY, .ref eZ, .int Mhp, .int Mpl])), (eS, .inl (cI, 12, .inl Msh))]) [0, 1] rfl
      have hD9 := hD.sub (ws' := [(y0, .inr (7, [.ref eS, .ref eP, .int Mfe, .ref eM, .ref eK, .ref eG, .ref eR, .long Mbo, .long Mro, .int Mus, .ref eN, .ref eW, .ref eV, .int Mne, .ref eA, .long Mca, .long Mga, .long Mgl, .long Mfl, .long Mst, .ref eH, .ref eX, .ref eY, .ref eZ, .int Mhp, .int Mpl])), (eS, .inl (cI, 12, .inl Msh))]) [0, 1] (by decide) rfl
      exact W.zret (ty := .boolean) (v := 0) hx hb hr rfl (fun t ht hW => ⟨⟨0, (Msh), rfl, by simp only [f_Mo_kind, w1, if_neg c4, w13, if_pos c16], by rw [ht]; exact hP9, hD9⟩, hS.F ht⟩) hS.2.2 d_Mo_kind_32
    · refine lv_iload_n hx hb d_Mo_kind_19 rfl (lv_at hl 3 rfl) ?_
      refine lv_i2l hx hb d_Mo_kind_20 rfl ?_
      refine lv_lconst (v := 0) hx hb d_Mo_kind_21 (by decide) ?_
      refine lv_ldc2 hx hb hown (hwg _ kw_360) d_Mo_kind_22 ?_
      have hPc := hP.sub (ws' := []) [] rfl
      have hDc := hD.sub (ws' := []) [] (by decide) rfl
      refine k_calli hP hD hS hA [] [0, 1] (wc := []) (wr := [(y0, .inr (7, [.ref eS, .ref eP, .int Mfe, .ref eM, .ref eK, .ref eG, .ref eR, .long Mbo, .long Mro, .int Mus, .ref eN, .ref eW, .ref eV, .int Mne, .ref eA, .long Mca, .long Mga, .long Mgl, .long Mfl, .long Mst, .ref eH, .ref eX, .ref eY, .ref eZ, .int Mhp, .int Mpl])), (eS, .inl (cI, 12, .inl Msh))]) rfl rfl (by decide) (by decide) (va_runS (As := [.long (Int32.toInt64 p3), .long 0, .long 1000]) (rest := []) ⟨hx, hb, hml, hown, hwg⟩ (c_Mo_isIn l dC dI cI cL cZ H13.size (Int32.toInt64 p3) 0 1000) (va_cwS 3 hwg (g_S kw_357 kw_358 kw_21 kw_359) rfl rfl rfl (by decide +kernel) ⟨Nat.le_of_ble_eq_true rfl, Nat.le_of_ble_eq_true rfl⟩) ⟨c_pre_call, c_pre_mk hPc hDc hK hN _⟩ rfl rfl hl.1 rfl (lv_room (Nat.le_of_ble_eq_true rfl)) d_Mo_kind_25 ⟨Nat.le_of_ble_eq_true rfl, Nat.le_of_ble_eq_true rfl⟩) (fun r25 u H25 locs w25 hz1 hP hD hS => ?_)
      have hP := hP.sub (ws' := [(y0, .inr (7, [.ref eS, .ref eP, .int Mfe, .ref eM, .ref eK, .ref eG, .ref eR, .long Mbo, .long Mro, .int Mus, .ref eN, .ref eW, .ref eV, .int Mne, .ref eA, .long Mca, .long Mga, .long Mgl, .long Mfl, .long Mst, .ref eH, .ref eX, .ref eY, .ref eZ, .int Mhp, .int Mpl])), (eS, .inl (cI, 12, .inl Msh))]) [0, 1] rfl
      have hD := hD.sub (ws' := [(y0, .inr (7, [.ref eS, .ref eP, .int Mfe, .ref eM, .ref eK, .ref eG, .ref eR, .long Mbo, .long Mro, .int Mus, .ref eN, .ref eW, .ref eV, .int Mne, .ref eA, .long Mca, .long Mga, .long Mgl, .long Mfl, .long Mst, .ref eH, .ref eX, .ref eY, .ref eZ, .int Mhp, .int Mpl])), (eS, .inl (cI, 12, .inl Msh))]) [0, 1] (by decide) rfl
      refine lv_if_ne (tgt := 33) hx hb d_Mo_kind_28 (by decide) (fun (c28 : ¬ (r25 = 0)) => ?_) (fun (c28 : r25 = 0) => ?_)
      · refine lv_aload_n hx hb d_Mo_kind_33 rfl (lv_at hl 0 rfl) ?_
        refine va_get (D := (dC, dI)) (ci := 7) (v := .ref eS) (C := R_Mo) (T := F_Mo) (N := 26) hx hb hwg iu_Mo hown hK hP 0 rfl rfl 0 (by decide) (hwg _ kw_322) (fun _ h9 => h9) rfl d_Mo_kind_34 ?_
        refine lv_iconst (v := 3) hx hb d_Mo_kind_37 (by decide) ?_
        refine lv_iload_n hx hb d_Mo_kind_38 rfl (lv_at hl 1 rfl) ?_
        refine lv_imul hx hb d_Mo_kind_39 ?_
        refine va_iald hx hb hK hP 1 0 rfl rfl (in_shm0 (in_mKind w1 c4)) d_Mo_kind_40 ?_
        refine lv_aload_n hx hb d_Mo_kind_41 rfl (lv_at hl 0 rfl) ?_
        refine va_get (D := (dC, dI)) (ci := 7) (v := .ref eS) (C := R_Mo) (T := F_Mo) (N := 26) hx hb hwg iu_Mo hown hK hP 0 rfl rfl 0 (by decide) (hwg _ kw_322) (fun _ h9 => h9) rfl d_Mo_kind_42 ?_
        refine lv_iconst (v := 3) hx hb d_Mo_kind_45 (by decide) ?_
        refine lv_iload_n hx hb d_Mo_kind_46 rfl (lv_at hl 1 rfl) ?_
        refine lv_imul hx hb d_Mo_kind_47 ?_
        refine lv_iconst (v := 1) hx hb d_Mo_kind_48 (by decide) ?_
        refine lv_iadd hx hb d_Mo_kind_49 ?_
        refine va_iald hx hb hK hP 1 0 rfl rfl (in_shm (in_mKind w1 c4) (by unfold vp_in; decide)) d_Mo_kind_50 ?_
        refine lv_iadd hx hb d_Mo_kind_51 ?_
        refine lv_aload_n hx hb d_Mo_kind_52 rfl (lv_at hl 0 rfl) ?_
        refine va_get (D := (dC, dI)) (ci := 7) (v := .ref eS) (C := R_Mo) (T := F_Mo) (N := 26) hx hb hwg iu_Mo hown hK hP 0 rfl rfl 0 (by decide) (hwg _ kw_322) (fun _ h9 => h9) rfl d_Mo_kind_53 ?_
        refine lv_iconst (v := 3) hx hb d_Mo_kind_56 (by decide) ?_
        refine lv_iload_n hx hb d_Mo_kind_57 rfl (lv_at hl 1 rfl) ?_
        refine lv_imul hx hb d_Mo_kind_58 ?_
        refine lv_iconst (v := 2) hx hb d_Mo_kind_59 (by decide) ?_
        refine lv_iadd hx hb d_Mo_kind_60 ?_
        refine va_iald hx hb hK hP 1 0 rfl rfl (in_shm (in_mKind w1 c4) (by unfold vp_in; decide)) d_Mo_kind_61 ?_
        refine lv_iadd hx hb d_Mo_kind_62 ?_
        refine lv_aload_n hx hb d_Mo_kind_63 rfl (lv_at hl 0 rfl) ?_
        refine va_get (D := (dC, dI)) (ci := 7) (v := .ref eS) (C := R_Mo) (T := F_Mo) (N := 26) hx hb hwg iu_Mo hown hK hP 0 rfl rfl 0 (by decide) (hwg _ kw_322) (fun _ h9 => h9) rfl d_Mo_kind_64 ?_
        refine lv_iconst (v := 3) hx hb d_Mo_kind_67 (by decide) ?_
        refine lv_iload_n hx hb d_Mo_kind_68 rfl (lv_at hl 1 rfl) ?_
        refine lv_imul hx hb d_Mo_kind_69 ?_
        refine lv_iload_n hx hb d_Mo_kind_70 rfl (lv_at hl 2 rfl) ?_
        refine lv_iadd hx hb d_Mo_kind_71 ?_
        refine va_iald hx hb hK hP 1 0 rfl rfl (in_shm (in_mKind w1 c4) (in_is2 w13 c16)) d_Mo_kind_72 ?_
        refine lv_isub hx hb d_Mo_kind_73 ?_
        refine lv_iload_n hx hb d_Mo_kind_74 rfl (lv_at hl 3 rfl) ?_
        refine lv_iadd hx hb d_Mo_kind_75 ?_
        refine lv_istore (lv' := [(4, .int (((((Msh (Int32.toNatClampNeg (3 * p1))) + (Msh (Int32.toNatClampNeg ((3 * p1) + 1)))) + (Msh (Int32.toNatClampNeg ((3 * p1) + 2)))) - (Msh (Int32.toNatClampNeg ((3 * p1) + p2)))) + p3)), (0, .ref y0), (1, .int p1), (2, .int p2), (3, .int p3)]) hx hb d_Mo_kind_76 hl (by decide) rfl (fun ls hl => ?_)
        refine lv_iload hx hb d_Mo_kind_78 (lv_at hl 0 rfl) ?_
        refine lv_sipush (v := 1000) hx hb d_Mo_kind_80 (by decide) ?_
        refine lv_icmp_le (tgt := 88) hx hb d_Mo_kind_83 (by decide) (fun (c83 : (((((Msh (Int32.toNatClampNeg (3 * p1))) + (Msh (Int32.toNatClampNeg ((3 * p1) + 1)))) + (Msh (Int32.toNatClampNeg ((3 * p1) + 2)))) - (Msh (Int32.toNatClampNeg ((3 * p1) + p2)))) + p3) ≤ 1000) => ?_) (fun (c83 : ¬ ((((((Msh (Int32.toNatClampNeg (3 * p1))) + (Msh (Int32.toNatClampNeg ((3 * p1) + 1)))) + (Msh (Int32.toNatClampNeg ((3 * p1) + 2)))) - (Msh (Int32.toNatClampNeg ((3 * p1) + p2)))) + p3) ≤ 1000)) => ?_)
        · refine lv_aload_n hx hb d_Mo_kind_88 rfl (lv_at hl 1 rfl) ?_
          refine va_get (D := (dC, dI)) (ci := 7) (v := .ref eS) (C := R_Mo) (T := F_Mo) (N := 26) hx hb hwg iu_Mo hown hK hP 0 rfl rfl 0 (by decide) (hwg _ kw_322) (fun _ h9 => h9) rfl d_Mo_kind_89 ?_
          refine lv_iconst (v := 3) hx hb d_Mo_kind_92 (by decide) ?_
          refine lv_iload_n hx hb d_Mo_kind_93 rfl (lv_at hl 2 rfl) ?_
          refine lv_imul hx hb d_Mo_kind_94 ?_
          refine lv_iload_n hx hb d_Mo_kind_95 rfl (lv_at hl 3 rfl) ?_
          refine lv_iadd hx hb d_Mo_kind_96 ?_
          refine lv_iload_n hx hb d_Mo_kind_97 rfl (lv_at hl 4 rfl) ?_
          refine va_iast hx hb hK hP hD hS 1 0 rfl rfl (in_shm (in_mKind w1 c4) (in_is2 w13 c16)) d_Mo_kind_98 (fun H98 locs hP hD hS => ?_)
          have hP : va_P (dC, dI) vwCl [(y0, .inr (7, [.ref eS, .ref eP, .int Mfe, .ref eM, .ref eK, .ref eG, .ref eR, .long Mbo, .long Mro, .int Mus, .ref eN, .ref eW, .ref eV, .int Mne, .ref eA, .long Mca, .long Mga, .long Mgl, .long Mfl, .long Mst, .ref eH, .ref eX, .ref eY, .ref eZ, .int Mhp, .int Mpl])), (eS, .inl (cI, 12, .inl (upd Msh (Int32.toNatClampNeg ((3 * p1) + p2)) p3)))] H98 := hP
          have hD : va_D A [(y0, .inr (7, [.ref eS, .ref eP, .int Mfe, .ref eM, .ref eK, .ref eG, .ref eR, .long Mbo, .long Mro, .int Mus, .ref eN, .ref eW, .ref eV, .int Mne, .ref eA, .long Mca, .long Mga, .long Mgl, .long Mfl, .long Mst, .ref eH, .ref eX, .ref eY, .ref eZ, .int Mhp, .int Mpl])), (eS, .inl (cI, 12, .inl (upd Msh (Int32.toNatClampNeg ((3 * p1) + p2)) p3)))] := hD
          refine lv_iconst (v := 1) hx hb d_Mo_kind_99 (by decide) ?_
          have hP9 := hP.sub (ws' := [(y0, .inr (7, [.ref eS, .ref eP, .int Mfe, .ref eM, .ref eK, .ref eG, .ref eR, .long Mbo, .long Mro, .int Mus, .ref eN, .ref eW, .ref eV, .int Mne, .ref eA, .long Mca, .long Mga, .long Mgl, .long Mfl, .long Mst, .ref eH, .ref eX, .ref eY, .ref eZ, .int Mhp, .int Mpl])), (eS, .inl (cI, 12, .inl (upd Msh (Int32.toNatClampNeg ((3 * p1) + p2)) p3)))]) [0, 1] rfl
          have hD9 := hD.sub (ws' := [(y0, .inr (7, [.ref eS, .ref eP, .int Mfe, .ref eM, .ref eK, .ref eG, .ref eR, .long Mbo, .long Mro, .int Mus, .ref eN, .ref eW, .ref eV, .int Mne, .ref eA, .long Mca, .long Mga, .long Mgl, .long Mfl, .long Mst, .ref eH, .ref eX, .ref eY, .ref eZ, .int Mhp, .int Mpl])), (eS, .inl (cI, 12, .inl (upd Msh (Int32.toNatClampNeg ((3 * p1) + p2)) p3)))]) [0, 1] (by decide) rfl
          exact W.zret (ty := .boolean) (v := 1) hx hb hr rfl (fun t ht hW => ⟨⟨1, (upd Msh (Int32.toNatClampNeg ((3 * p1) + p2)) p3), rfl, by simp only [f_Mo_kind, w1, if_neg c4, w13, if_neg c16, w25, if_neg c28, if_pos c83], by rw [ht]; exact hP9, hD9⟩, hS.F ht⟩) hS.2.2 d_Mo_kind_100
        · refine lv_iconst (v := 0) hx hb d_Mo_kind_86 (by decide) ?_
          have hP9 := hP.sub (ws' := [(y0, .inr (7, [.ref eS, .ref eP, .int Mfe, .ref eM, .ref eK, .ref eG, .ref eR, .long Mbo, .long Mro, .int Mus, .ref eN, .ref eW, .ref eV, .int Mne, .ref eA, .long Mca, .long Mga, .long Mgl, .long Mfl, .long Mst, .ref eH, .ref eX, .ref eY, .ref eZ, .int Mhp, .int Mpl])), (eS, .inl (cI, 12, .inl Msh))]) [0, 1] rfl
          have hD9 := hD.sub (ws' := [(y0, .inr (7, [.ref eS, .ref eP, .int Mfe, .ref eM, .ref eK, .ref eG, .ref eR, .long Mbo, .long Mro, .int Mus, .ref eN, .ref eW, .ref eV, .int Mne, .ref eA, .long Mca, .long Mga, .long Mgl, .long Mfl, .long Mst, .ref eH, .ref eX, .ref eY, .ref eZ, .int Mhp, .int Mpl])), (eS, .inl (cI, 12, .inl Msh))]) [0, 1] (by decide) rfl
          exact W.zret (ty := .boolean) (v := 0) hx hb hr rfl (fun t ht hW => ⟨⟨0, (Msh), rfl, by simp only [f_Mo_kind, w1, if_neg c4, w13, if_neg c16, w25, if_neg c28, if_neg c83], by rw [ht]; exact hP9, hD9⟩, hS.F ht⟩) hS.2.2 d_Mo_kind_87
      · refine lv_iconst (v := 0) hx hb d_Mo_kind_31 (by decide) ?_
        have hP9 := hP.sub (ws' := [(y0, .inr (7, [.ref eS, .ref eP, .int Mfe, .ref eM, .ref eK, .ref eG, .ref eR, .long Mbo, .long Mro, .int Mus, .ref eN, .ref eW, .ref eV, .int Mne, .ref eA, .long Mca, .long Mga, .long Mgl, .long Mfl, .long Mst, .ref eH, .ref eX, .ref eY, .ref eZ, .int Mhp, .int Mpl])), (eS, .inl (cI, 12, .inl Msh))]) [0, 1] rfl
        have hD9 := hD.sub (ws' := [(y0, .inr (7, [.ref eS, .ref eP, .int Mfe, .ref eM, .ref eK, .ref eG, .ref eR, .long Mbo, .long Mro, .int Mus, .ref eN, .ref eW, .ref eV, .int Mne, .ref eA, .long Mca, .long Mga, .long Mgl, .long Mfl, .long Mst, .ref eH, .ref eX, .ref eY, .ref eZ, .int Mhp, .int Mpl])), (eS, .inl (cI, 12, .inl Msh))]) [0, 1] (by decide) rfl
        exact W.zret (ty := .boolean) (v := 0) hx hb hr rfl (fun t ht hW => ⟨⟨0, (Msh), rfl, by simp only [f_Mo_kind, w1, if_neg c4, w13, if_neg c16, w25, if_pos c28], by rw [ht]; exact hP9, hD9⟩, hS.F ht⟩) hS.2.2 d_Mo_kind_32
def f_Mo_start (Mca : Int64) (Mpa : Nat → Int64) (p1 : Int32) (p2 : Int32) : Int32 × Int64 × (Nat → Int64) := let r6 := f_Mo_isIn (Int32.toInt64 p1) 0 3; if r6 = 0 then ((0, Mca, Mpa)) else (let r18 := f_Mo_isIn (Int32.toInt64 p2) 0 1000000; if r18 = 0 then ((0, Mca, Mpa)) else (if (lg_cmp ((Mpa (Int32.toNatClampNeg p1)) + (Int32.toInt64 p2)) 1000000000) ≤ 0 then ((1, Mca + (Int32.toInt64 p2), vp_updL Mpa (Int32.toNatClampNeg p1) ((Mpa (Int32.toNatClampNeg p1)) + (Int32.toInt64 p2)))) else ((0, Mca, Mpa))))
abbrev rm_Mo_start : Room := { frames := 1, cells := 0, slots := 0, locals := 25 }
set_option maxHeartbeats 4000000 in
set_option maxRecDepth 100000 in
theorem c_Mo_start (l : Launch) (dC : Nat → ClassId) (dI : Nat → Nat → Nat) (cI cL cZ : ClassId) (y0 eS eP eM eK eG eR eN eW eV eA eH eX eY eZ : Nat) (sz : Nat) (Mfe : Int32) (Mbo : Int64) (Mro : Int64) (Mus : Int32) (Mne : Int32) (Mca : Int64) (Mga : Int64) (Mgl : Int64) (Mfl : Int64) (Mst : Int64) (Mhp : Int32) (Mpl : Int32) (Mpa : Nat → Int64) (p1 : Int32) (p2 : Int32) : Met l y_Mo_start w_Mo_start rm_Mo_start (va_Pc [.ref y0, .int p1, .int p2] (c_pre dC dI cI cL cZ [(y0, .inr (7, [.ref eS, .ref eP, .int Mfe, .ref eM, .ref eK, .ref eG, .ref eR, .long Mbo, .long Mro, .int Mus, .ref eN, .ref eW, .ref eV, .int Mne, .ref eA, .long Mca, .long Mga, .long Mgl, .long Mfl, .long Mst, .ref eH, .ref eX, .ref eY, .ref eZ, .int Mhp, .int Mpl])), (eP, .inl (cL, 4, .inr (.inl Mpa)))] sz)) (va_Qi (fun (r : Int32) (u : Int64 × (Nat → Int64)) => f_Mo_start Mca Mpa p1 p2 = (r, u)) (c_post dC dI (fun (u : Int64 × (Nat → Int64)) => [(y0, .inr (7, [.ref eS, .ref eP, .int Mfe, .ref eM, .ref eK, .ref eG, .ref eR, .long Mbo, .long Mro, .int Mus, .ref eN, .ref eW, .ref eV, .int Mne, .ref eA, .long u.1, .long Mga, .long Mgl, .long Mfl, .long Mst, .ref eH, .ref eX, .ref eY, .ref eZ, .int Mhp, .int Mpl])), (eP, .inl (cL, 4, .inr (.inl u.2)))]) (va_A [(y0, .inr (7, [.ref eS, .ref eP, .int Mfe, .ref eM, .ref eK, .ref eG, .ref eR, .long Mbo, .long Mro, .int Mus, .ref eN, .ref eW, .ref eV, .int Mne, .ref eA, .long Mca, .long Mga, .long Mgl, .long Mfl, .long Mst, .ref eH, .ref eX, .ref eY, .ref eZ, .int Mhp, .int Mpl])), (eP, .inl (cL, 4, .inr (.inl Mpa)))] sz)) (va_A [(y0, .inr (7, [.ref eS, .ref eP, .int Mfe, .ref eM, .ref eK, .ref eG, .ref eR, .long Mbo, .long Mro, .int Mus, .ref eN, .ref eW, .ref eV, .int Mne, .ref eA, .long Mca, .long Mga, .long Mgl, .long Mfl, .long Mst, .ref eH, .ref eX, .ref eY, .ref eZ, .int Mhp, .int Mpl])), (eP, .inl (cL, 4, .inr (.inl Mpa)))] sz)) 0 0 (va_A [(y0, .inr (7, [.ref eS, .ref eP, .int Mfe, .ref eM, .ref eK, .ref eG, .ref eR, .long Mbo, .long Mro, .int Mus, .ref eN, .ref eW, .ref eV, .int Mne, .ref eA, .long Mca, .long Mga, .long Mgl, .long Mfl, .long Mst, .ref eH, .ref eX, .ref eY, .ref eZ, .int Mhp, .int Mpl])), (eP, .inl (cL, 4, .inr (.inl Mpa)))] sz) := by
  refine Met.ofW (cc := b_Mo_start) (maxL := 3) (ret := (some .boolean)) (by decide) rfl ?_
  intro p e s m args below meth c s₁ B hml hv
  obtain ⟨rfl, hsz, hP, hK, hN, hD0⟩ := hv
  have hx := B.exec
  have hb := B.bytes
  have hr := B.returns
  have hts := atoms_spec (ws := w_Mo_start) B.pre
  have hown : s.vm.findClass R_Mo = some m.cls := findClass_of_methodNamed B.named
  have hlocks := B.notSynchronized
  have hwg : ∀ w ∈ wg, w.before ([.ref y0, .int p1, .int p2] : List Value).toArray s = true := fun w h => hts w (List.mem_cons_of_mem _ h)
  subst hsz
  have hD := hD0.self (sz := s.heap.size)
  generalize hAe : va_A [(y0, .inr (7, [.ref eS, .ref eP, .int Mfe, .ref eM, .ref eK, .ref eG, .ref eR, .long Mbo, .long Mro, .int Mus, .ref eN, .ref eW, .ref eV, .int Mne, .ref eA, .long Mca, .long Mga, .long Mgl, .long Mfl, .long Mst, .ref eH, .ref eX, .ref eY, .ref eZ, .int Mhp, .int Mpl])), (eP, .inl (cL, 4, .inr (.inl Mpa)))] s.heap.size = A at hD ⊢
  have hA : ∀ q : Nat, s.heap.size ≤ q → A q := fun q h => by rw [← hAe]; exact Or.inr h
  have hS : va_S A s.heap s.heap [] := va_S.rf
  have hP : va_P (dC, dI) vwCl [(y0, .inr (7, [.ref eS, .ref eP, .int Mfe, .ref eM, .ref eK, .ref eG, .ref eR, .long Mbo, .long Mro, .int Mus, .ref eN, .ref eW, .ref eV, .int Mne, .ref eA, .long Mca, .long Mga, .long Mgl, .long Mfl, .long Mst, .ref eH, .ref eX, .ref eY, .ref eZ, .int Mhp, .int Mpl])), (eP, .inl (cL, 4, .inr (.inl Mpa)))] s.heap := hP
  have hl := lv_entry ([.ref y0, .int p1, .int p2]) (n := 3) (Nat.le_of_ble_eq_true rfl)
  rw [lg_entry_eq]
  generalize (lg_sl ([.ref y0, .int p1, .int p2]) ++ List.replicate (3 - (lg_sl ([.ref y0, .int p1, .int p2])).length) Slot.unset).toArray = ls at hl ⊢
  have hl : lv_has ls 3 [(0, .ref y0), (1, .int p1), (2, .int p2)] := hl
  refine lv_iload_n hx hb d_Mo_start_0 rfl (lv_at hl 1 rfl) ?_
  refine lv_i2l hx hb d_Mo_start_1 rfl ?_
  refine lv_lconst (v := 0) hx hb d_Mo_start_2 (by decide) ?_
  refine lv_ldc2 hx hb hown (hwg _ kw_365) d_Mo_start_3 ?_
  have hPc := hP.sub (ws' := []) [] rfl
  have hDc := hD.sub (ws' := []) [] (by decide) rfl
  refine k_calli hP hD hS hA [] [0, 1] (wc := []) (wr := [(y0, .inr (7, [.ref eS, .ref eP, .int Mfe, .ref eM, .ref eK, .ref eG, .ref eR, .long Mbo, .long Mro, .int Mus, .ref eN, .ref eW, .ref eV, .int Mne, .ref eA, .long Mca, .long Mga, .long Mgl, .long Mfl, .long Mst, .ref eH, .ref eX, .ref eY, .ref eZ, .int Mhp, .int Mpl])), (eP, .inl (cL, 4, .inr (.inl Mpa)))]) rfl rfl (by decide) (by decide) (va_runS (As := [.long (Int32.toInt64 p1), .long 0, .long 3]) (rest := []) ⟨hx, hb, hml, hown, hwg⟩ (c_Mo_isIn l dC dI cI cL cZ s.heap.size (Int32.toInt64 p1) 0 3) (va_cwS 3 hwg (g_S kw_357 kw_358 kw_21 kw_359) rfl rfl rfl (by decide +kernel) ⟨Nat.le_of_ble_eq_true rfl, Nat.le_of_ble_eq_true rfl⟩) ⟨c_pre_call, c_pre_mk hPc hDc hK hN _⟩ rfl rfl hl.1 rfl (lv_room (Nat.le_of_ble_eq_true rfl)) d_Mo_start_6 ⟨Nat.le_of_ble_eq_true rfl, Nat.le_of_ble_eq_true rfl⟩) (fun r6 u H6 locs w6 hz1 hP hD hS => ?_)
  have hP := hP.sub (ws' := [(y0, .inr (7, [.ref eS, .ref eP, .int Mfe, .ref eM, .ref eK, .ref eG, .ref eR, .long Mbo, .long Mro, .int Mus, .ref eN, .ref eW, .ref eV, .int Mne, .ref eA, .long Mca, .long Mga, .long Mgl, .long Mfl, .long Mst, .ref eH, .ref eX, .ref eY, .ref eZ, .int Mhp, .int Mpl])), (eP, .inl (cL, 4, .inr (.inl Mpa)))]) [0, 1] rfl
  have hD := hD.sub (ws' := [(y0, .inr (7, [.ref eS, .ref eP, .int Mfe, .ref eM, .ref eK, .ref eG, .ref eR, .long Mbo, .long Mro, .int Mus, .ref eN, .ref eW, .ref eV, .int Mne, .ref eA, .long Mca, .long Mga, .long Mgl, .long Mfl, .long Mst, .ref eH, .ref eX, .ref eY, .ref eZ, .int Mhp, .int Mpl])), (eP, .inl (cL, 4, .inr (.inl Mpa)))]) [0, 1] (by decide) rfl
  refine lv_if_eq (tgt := 40) hx hb d_Mo_start_9 (by decide) (fun (c9 : r6 = 0) => ?_) (fun (c9 : ¬ (r6 = 0)) => ?_)
  · refine lv_iconst (v := 0) hx hb d_Mo_start_40 (by decide) ?_
    have hP9 := hP.sub (ws' := [(y0, .inr (7, [.ref eS, .ref eP, .int Mfe, .ref eM, .ref eK, .ref eG, .ref eR, .long Mbo, .long Mro, .int Mus, .ref eN, .ref eW, .ref eV, .int Mne, .ref eA, .long Mca, .long Mga, .long Mgl, .long Mfl, .long Mst, .ref eH, .ref eX, .ref eY, .ref eZ, .int Mhp, .int Mpl])), (eP, .inl (cL, 4, .inr (.inl Mpa)))]) [0, 1] rfl
    have hD9 := hD.sub (ws' := [(y0, .inr (7, [.ref eS, .ref eP, .int Mfe, .ref eM, .ref eK, .ref eG, .ref eR, .long Mbo, .long Mro, .int Mus, .ref eN, .ref eW, .ref eV, .int Mne, .ref eA, .long Mca, .long Mga, .long Mgl, .long Mfl, .long Mst, .ref eH, .ref eX, .ref eY, .ref eZ, .int Mhp, .int Mpl])), (eP, .inl (cL, 4, .inr (.inl Mpa)))]) [0, 1] (by decide) rfl
    exact W.zret (ty := .boolean) (v := 0) hx hb hr rfl (fun t ht hW => ⟨⟨0, (Mca, Mpa), rfl, by simp only [f_Mo_start, w6, if_pos c9], by rw [ht]; exact hP9, hD9⟩, hS.F ht⟩) hS.2.2 d_Mo_start_41
  · refine lv_iload_n hx hb d_Mo_start_12 rfl (lv_at hl 2 rfl) ?_
    refine lv_i2l hx hb d_Mo_start_13 rfl ?_
    refine lv_lconst (v := 0) hx hb d_Mo_start_14 (by decide) ?_
    refine lv_ldc2 hx hb hown (hwg _ kw_366) d_Mo_start_15 ?_
    have hPc := hP.sub (ws' := []) [] rfl
    have hDc := hD.sub (ws' := []) [] (by decide) rfl
    refine k_calli hP hD hS hA [] [0, 1] (wc := []) (wr := [(y0, .inr (7, [.ref eS, .ref eP, .int Mfe, .ref eM, .ref eK, .ref eG, .ref eR, .long Mbo, .long Mro, .int Mus, .ref eN, .ref eW, .ref eV, .int Mne, .ref eA, .long Mca, .long Mga, .long Mgl, .long Mfl, .long Mst, .ref eH, .ref eX, .ref eY, .ref eZ, .int Mhp, .int Mpl])), (eP, .inl (cL, 4, .inr (.inl Mpa)))]) rfl rfl (by decide) (by decide) (va_runS (As := [.long (Int32.toInt64 p2), .long 0, .long 1000000]) (rest := []) ⟨hx, hb, hml, hown, hwg⟩ (c_Mo_isIn l dC dI cI cL cZ H6.size (Int32.toInt64 p2) 0 1000000) (va_cwS 3 hwg (g_S kw_357 kw_358 kw_21 kw_359) rfl rfl rfl (by decide +kernel) ⟨Nat.le_of_ble_eq_true rfl, Nat.le_of_ble_eq_true rfl⟩) ⟨c_pre_call, c_pre_mk hPc hDc hK hN _⟩ rfl rfl hl.1 rfl (lv_room (Nat.le_of_ble_eq_true rfl)) d_Mo_start_18 ⟨Nat.le_of_ble_eq_true rfl, Nat.le_of_ble_eq_true rfl⟩) (fun r18 u H18 locs w18 hz1 hP hD hS => ?_)
    have hP := hP.sub (ws' := [(y0, .inr (7, [.ref eS, .ref eP, .int Mfe, .ref eM, .ref eK, .ref eG, .ref eR, .long Mbo, .long Mro, .int Mus, .ref eN, .ref eW, .ref eV, .int Mne, .ref eA, .long Mca, .long Mga, .long Mgl, .long Mfl, .long Mst, .ref eH, .ref eX, .ref eY, .ref eZ, .int Mhp, .int Mpl])), (eP, .inl (cL, 4, .inr (.inl Mpa)))]) [0, 1] rfl
    have hD := hD.sub (ws' := [(y0, .inr (7, [.ref eS, .ref eP, .int Mfe, .ref eM, .ref eK, .ref eG, .ref eR, .long Mbo, .long Mro, .int Mus, .ref eN, .ref eW, .ref eV, .int Mne, .ref eA, .long Mca, .long Mga, .long Mgl, .long Mfl, .long Mst, .ref eH, .ref eX, .ref eY, .ref eZ, .int Mhp, .int Mpl])), (eP, .inl (cL, 4, .inr (.inl Mpa)))]) [0, 1] (by decide) rfl
    refine lv_if_eq (tgt := 40) hx hb d_Mo_start_21 (by decide) (fun (c21 : r18 = 0) => ?_) (fun (c21 : ¬ (r18 = 0)) => ?_)
    · refine lv_iconst (v := 0) hx hb d_Mo_start_40 (by decide) ?_
      have hP9 := hP.sub (ws' := [(y0, .inr (7, [.ref eS, .ref eP, .int Mfe, .ref eM, .ref eK, .ref eG, .ref eR, .long Mbo, .long Mro, .int Mus, .ref eN, .ref eW, .ref eV, .int Mne, .ref eA, .long Mca, .long Mga, .long Mgl, .long Mfl, .long Mst, .ref eH, .ref eX, .ref eY, .ref eZ, .int Mhp, .int Mpl])), (eP, .inl (cL, 4, .inr (.inl Mpa)))]) [0, 1] rfl
      have hD9 := hD.sub (ws' := [(y0, .inr (7, [.ref eS, .ref eP, .int Mfe, .ref eM, .ref eK, .ref eG, .ref eR, .long Mbo, .long Mro, .int Mus, .ref eN, .ref eW, .ref eV, .int Mne, .ref eA, .long Mca, .long Mga, .long Mgl, .long Mfl, .long Mst, .ref eH, .ref eX, .ref eY, .ref eZ, .int Mhp, .int Mpl])), (eP, .inl (cL, 4, .inr (.inl Mpa)))]) [0, 1] (by decide) rfl
      exact W.zret (ty := .boolean) (v := 0) hx hb hr rfl (fun t ht hW => ⟨⟨0, (Mca, Mpa), rfl, by simp only [f_Mo_start, w6, if_neg c9, w18, if_pos c21], by rw [ht]; exact hP9, hD9⟩, hS.F ht⟩) hS.2.2 d_Mo_start_41
    · refine lv_aload_n hx hb d_Mo_start_24 rfl (lv_at hl 0 rfl) ?_
      refine va_get (D := (dC, dI)) (ci := 7) (v := .ref eP) (C := R_Mo) (T := F_Mo) (N := 26) hx hb hwg iu_Mo hown hK hP 0 rfl rfl 1 (by decide) (hwg _ kw_323) (fun _ h9 => h9) rfl d_Mo_start_25 ?_
      refine lv_iload_n hx hb d_Mo_start_28 rfl (lv_at hl 1 rfl) ?_
      refine va_lald hx hb hK hP 1 1 rfl rfl (in_is3 w6 c9) d_Mo_start_29 ?_
      refine lv_iload_n hx hb d_Mo_start_30 rfl (lv_at hl 2 rfl) ?_
      refine lv_i2l hx hb d_Mo_start_31 rfl ?_
      refine lv_ladd hx hb d_Mo_start_32 ?_
      refine lv_ldc2 hx hb hown (hwg _ kw_321) d_Mo_start_33 ?_
      refine W.lcmp hx hb d_Mo_start_36 ?_
      refine lv_if_le (tgt := 42) hx hb d_Mo_start_37 (by decide) (fun (c37 : (lg_cmp ((Mpa (Int32.toNatClampNeg p1)) + (Int32.toInt64 p2)) 1000000000) ≤ 0) => ?_) (fun (c37 : ¬ ((lg_cmp ((Mpa (Int32.toNatClampNeg p1)) + (Int32.toInt64 p2)) 1000000000) ≤ 0)) => ?_)
      · refine lv_aload_n hx hb d_Mo_start_42 rfl (lv_at hl 0 rfl) ?_
        refine va_get (D := (dC, dI)) (ci := 7) (v := .ref eP) (C := R_Mo) (T := F_Mo) (N := 26) hx hb hwg iu_Mo hown hK hP 0 rfl rfl 1 (by decide) (hwg _ kw_323) (fun _ h9 => h9) rfl d_Mo_start_43 ?_
        refine lv_iload_n hx hb d_Mo_start_46 rfl (lv_at hl 1 rfl) ?_
        refine lv_dup2_11 hx hb d_Mo_start_47 rfl rfl ?_
        refine va_lald hx hb hK hP 1 1 rfl rfl (in_is3 w6 c9) d_Mo_start_48 ?_
        refine lv_iload_n hx hb d_Mo_start_49 rfl (lv_at hl 2 rfl) ?_
        refine lv_i2l hx hb d_Mo_start_50 rfl ?_
        refine lv_ladd hx hb d_Mo_start_51 ?_
        refine va_last hx hb hK hP hD hS 1 1 rfl rfl (in_is3 w6 c9) d_Mo_start_52 (fun H52 locs hP hD hS => ?_)
        have hP : va_P (dC, dI) vwCl [(y0, .inr (7, [.ref eS, .ref eP, .int Mfe, .ref eM, .ref eK, .ref eG, .ref eR, .long Mbo, .long Mro, .int Mus, .ref eN, .ref eW, .ref eV, .int Mne, .ref eA, .long Mca, .long Mga, .long Mgl, .long Mfl, .long Mst, .ref eH, .ref eX, .ref eY, .ref eZ, .int Mhp, .int Mpl])), (eP, .inl (cL, 4, .inr (.inl (vp_updL Mpa (Int32.toNatClampNeg p1) ((Mpa (Int32.toNatClampNeg p1)) + (Int32.toInt64 p2))))))] H52 := hP
        have hD : va_D A [(y0, .inr (7, [.ref eS, .ref eP, .int Mfe, .ref eM, .ref eK, .ref eG, .ref eR, .long Mbo, .long Mro, .int Mus, .ref eN, .ref eW, .ref eV, .int Mne, .ref eA, .long Mca, .long Mga, .long Mgl, .long Mfl, .long Mst, .ref eH, .ref eX, .ref eY, .ref eZ, .int Mhp, .int Mpl])), (eP, .inl (cL, 4, .inr (.inl (vp_updL Mpa (Int32.toNatClampNeg p1) ((Mpa (Int32.toNatClampNeg p1)) + (Int32.toInt64 p2))))))] := hD
        refine lv_aload_n hx hb d_Mo_start_53 rfl (lv_at hl 0 rfl) ?_
        refine lv_dup hx hb d_Mo_start_54 rfl ?_
        refine va_get (D := (dC, dI)) (ci := 7) (v := .long Mca) (C := R_Mo) (T := F_Mo) (N := 26) hx hb hwg iu_Mo hown hK hP 0 rfl rfl 15 (by decide) (hwg _ kw_337) (fun _ h9 => h9) rfl d_Mo_start_55 ?_
        refine lv_iload_n hx hb d_Mo_start_58 rfl (lv_at hl 2 rfl) ?_
        refine lv_i2l hx hb d_Mo_start_59 rfl ?_
        refine lv_ladd hx hb d_Mo_start_60 ?_
        refine va_put (D := (dC, dI)) (ci := 7) (v := .long (Mca + (Int32.toInt64 p2))) (ty := .long) (C := R_Mo) (T := F_Mo) (N := 26) hx hb hwg iu_Mo t_Mo t_Mo_ok n_Mo hown hK hP hD hS 0 rfl rfl 15 (by decide) (hwg _ kw_337) (fun _ h9 => h9) rfl (by decide +kernel) rfl rfl (Nat.le_of_ble_eq_true rfl) d_Mo_start_61 (fun H61 locs hP hD hS => ?_)
        have hP : va_P (dC, dI) vwCl [(y0, .inr (7, [.ref eS, .ref eP, .int Mfe, .ref eM, .ref eK, .ref eG, .ref eR, .long Mbo, .long Mro, .int Mus, .ref eN, .ref eW, .ref eV, .int Mne, .ref eA, .long (Mca + (Int32.toInt64 p2)), .long Mga, .long Mgl, .long Mfl, .long Mst, .ref eH, .ref eX, .ref eY, .ref eZ, .int Mhp, .int Mpl])), (eP, .inl (cL, 4, .inr (.inl (vp_updL Mpa (Int32.toNatClampNeg p1) ((Mpa (Int32.toNatClampNeg p1)) + (Int32.toInt64 p2))))))] H61 := hP
        have hD : va_D A [(y0, .inr (7, [.ref eS, .ref eP, .int Mfe, .ref eM, .ref eK, .ref eG, .ref eR, .long Mbo, .long Mro, .int Mus, .ref eN, .ref eW, .ref eV, .int Mne, .ref eA, .long (Mca + (Int32.toInt64 p2)), .long Mga, .long Mgl, .long Mfl, .long Mst, .ref eH, .ref eX, .ref eY, .ref eZ, .int Mhp, .int Mpl])), (eP, .inl (cL, 4, .inr (.inl (vp_updL Mpa (Int32.toNatClampNeg p1) ((Mpa (Int32.toNatClampNeg p1)) + (Int32.toInt64 p2))))))] := hD
        refine lv_iconst (v := 1) hx hb d_Mo_start_64 (by decide) ?_
        have hP9 := hP.sub (ws' := [(y0, .inr (7, [.ref eS, .ref eP, .int Mfe, .ref eM, .ref eK, .ref eG, .ref eR, .long Mbo, .long Mro, .int Mus, .ref eN, .ref eW, .ref eV, .int Mne, .ref eA, .long (Mca + (Int32.toInt64 p2)), .long Mga, .long Mgl, .long Mfl, .long Mst, .ref eH, .ref eX, .ref eY, .ref eZ, .int Mhp, .int Mpl])), (eP, .inl (cL, 4, .inr (.inl (vp_updL Mpa (Int32.toNatClampNeg p1) ((Mpa (Int32.toNatClampNeg p1)) + (Int32.toInt64 p2))))))]) [0, 1] rfl
        have hD9 := hD.sub (ws' := [(y0, .inr (7, [.ref eS, .ref eP, .int Mfe, .ref eM, .ref eK, .ref eG, .ref eR, .long Mbo, .long Mro, .int Mus, .ref eN, .ref eW, .ref eV, .int Mne, .ref eA, .long (Mca + (Int32.toInt64 p2)), .long Mga, .long Mgl, .long Mfl, .long Mst, .ref eH, .ref eX, .ref eY, .ref eZ, .int Mhp, .int Mpl])), (eP, .inl (cL, 4, .inr (.inl (vp_updL Mpa (Int32.toNatClampNeg p1) ((Mpa (Int32.toNatClampNeg p1)) + (Int32.toInt64 p2))))))]) [0, 1] (by decide) rfl
        exact W.zret (ty := .boolean) (v := 1) hx hb hr rfl (fun t ht hW => ⟨⟨1, (Mca + (Int32.toInt64 p2), vp_updL Mpa (Int32.toNatClampNeg p1) ((Mpa (Int32.toNatClampNeg p1)) + (Int32.toInt64 p2))), rfl, by simp only [f_Mo_start, w6, if_neg c9, w18, if_neg c21, if_pos c37], by rw [ht]; exact hP9, hD9⟩, hS.F ht⟩) hS.2.2 d_Mo_start_65
      · refine lv_iconst (v := 0) hx hb d_Mo_start_40 (by decide) ?_
        have hP9 := hP.sub (ws' := [(y0, .inr (7, [.ref eS, .ref eP, .int Mfe, .ref eM, .ref eK, .ref eG, .ref eR, .long Mbo, .long Mro, .int Mus, .ref eN, .ref eW, .ref eV, .int Mne, .ref eA, .long Mca, .long Mga, .long Mgl, .long Mfl, .long Mst, .ref eH, .ref eX, .ref eY, .ref eZ, .int Mhp, .int Mpl])), (eP, .inl (cL, 4, .inr (.inl Mpa)))]) [0, 1] rfl
        have hD9 := hD.sub (ws' := [(y0, .inr (7, [.ref eS, .ref eP, .int Mfe, .ref eM, .ref eK, .ref eG, .ref eR, .long Mbo, .long Mro, .int Mus, .ref eN, .ref eW, .ref eV, .int Mne, .ref eA, .long Mca, .long Mga, .long Mgl, .long Mfl, .long Mst, .ref eH, .ref eX, .ref eY, .ref eZ, .int Mhp, .int Mpl])), (eP, .inl (cL, 4, .inr (.inl Mpa)))]) [0, 1] (by decide) rfl
        exact W.zret (ty := .boolean) (v := 0) hx hb hr rfl (fun t ht hW => ⟨⟨0, (Mca, Mpa), rfl, by simp only [f_Mo_start, w6, if_neg c9, w18, if_neg c21, if_neg c37], by rw [ht]; exact hP9, hD9⟩, hS.F ht⟩) hS.2.2 d_Mo_start_41
def f_Mo_feed (Mfe : Int32) (Mne : Int32) (Mfm : Nat → Int32) (Mfk : Nat → Int32) (Mfg : Nat → Int32) (p1 : Int32) (p2 : Int32) (p3 : Int32) : Int32 × Int32 × (Nat → Int32) × (Nat → Int32) × (Nat → Int32) := let r10 := f_Mo_isIn (Int32.toInt64 p1) (Int32.toInt64 Mne) 9999; if r10 = 0 then ((0, Mfe, Mfm, Mfk, Mfg)) else (let r17 := f_Mo_isKind p2; if r17 = 0 then ((0, Mfe, Mfm, Mfk, Mfg)) else (let r29 := f_Mo_isIn (Int32.toInt64 p3) 1 100000; if r29 = 0 then ((0, Mfe, Mfm, Mfk, Mfg)) else (if Mfe = 30 then ((0, Mfe, Mfm, Mfk, Mfg)) else ((1, Mfe + 1, upd Mfm (Int32.toNatClampNeg Mfe) p1, upd Mfk (Int32.toNatClampNeg Mfe) p2, upd Mfg (Int32.toNatClampNeg Mfe) p3)))))
abbrev rm_Mo_feed : Room := { frames := 1, cells := 0, slots := 0, locals := 25 }
set_option maxHeartbeats 4000000 in
set_option maxRecDepth 100000 in
theorem c_Mo_feed (l : Launch) (dC : Nat → ClassId) (dI : Nat → Nat → Nat) (cI cL cZ : ClassId) (y0 eS eP eM eK eG eR eN eW eV eA eH eX eY eZ : Nat) (sz : Nat) (Mfe : Int32) (Mbo : Int64) (Mro : Int64) (Mus : Int32) (Mne : Int32) (Mca : Int64) (Mga : Int64) (Mgl : Int64) (Mfl : Int64) (Mst : Int64) (Mhp : Int32) (Mpl : Int32) (Mfm : Nat → Int32) (Mfk : Nat → Int32) (Mfg : Nat → Int32) (p1 : Int32) (p2 : Int32) (p3 : Int32) (hfe : vp_in Mfe 31) : Met l y_Mo_feed w_Mo_feed rm_Mo_feed (va_Pc [.ref y0, .int p1, .int p2, .int p3] (c_pre dC dI cI cL cZ [(y0, .inr (7, [.ref eS, .ref eP, .int Mfe, .ref eM, .ref eK, .ref eG, .ref eR, .long Mbo, .long Mro, .int Mus, .ref eN, .ref eW, .ref eV, .int Mne, .ref eA, .long Mca, .long Mga, .long Mgl, .long Mfl, .long Mst, .ref eH, .ref eX, .ref eY, .ref eZ, .int Mhp, .int Mpl])), (eM, .inl (cI, 30, .inl Mfm)), (eK, .inl (cI, 30, .inl Mfk)), (eG, .inl (cI, 30, .inl Mfg))] sz)) (va_Qi (fun (r : Int32) (u : Int32 × (Nat → Int32) × (Nat → Int32) × (Nat → Int32)) => f_Mo_feed Mfe Mne Mfm Mfk Mfg p1 p2 p3 = (r, u)) (c_post dC dI (fun (u : Int32 × (Nat → Int32) × (Nat → Int32) × (Nat → Int32)) => [(y0, .inr (7, [.ref eS, .ref eP, .int u.1, .ref eM, .ref eK, .ref eG, .ref eR, .long Mbo, .long Mro, .int Mus, .ref eN, .ref eW, .ref eV, .int Mne, .ref eA, .long Mca, .long Mga, .long Mgl, .long Mfl, .long Mst, .ref eH, .ref eX, .ref eY, .ref eZ, .int Mhp, .int Mpl])), (eM, .inl (cI, 30, .inl u.2.1)), (eK, .inl (cI, 30, .inl u.2.2.1)), (eG, .inl (cI, 30, .inl u.2.2.2))]) (va_A [(y0, .inr (7, [.ref eS, .ref eP, .int Mfe, .ref eM, .ref eK, .ref eG, .ref eR, .long Mbo, .long Mro, .int Mus, .ref eN, .ref eW, .ref eV, .int Mne, .ref eA, .long Mca, .long Mga, .long Mgl, .long Mfl, .long Mst, .ref eH, .ref eX, .ref eY, .ref eZ, .int Mhp, .int Mpl])), (eM, .inl (cI, 30, .inl Mfm)), (eK, .inl (cI, 30, .inl Mfk)), (eG, .inl (cI, 30, .inl Mfg))] sz)) (va_A [(y0, .inr (7, [.ref eS, .ref eP, .int Mfe, .ref eM, .ref eK, .ref eG, .ref eR, .long Mbo, .long Mro, .int Mus, .ref eN, .ref eW, .ref eV, .int Mne, .ref eA, .long Mca, .long Mga, .long Mgl, .long Mfl, .long Mst, .ref eH, .ref eX, .ref eY, .ref eZ, .int Mhp, .int Mpl])), (eM, .inl (cI, 30, .inl Mfm)), (eK, .inl (cI, 30, .inl Mfk)), (eG, .inl (cI, 30, .inl Mfg))] sz)) 0 0 (va_A [(y0, .inr (7, [.ref eS, .ref eP, .int Mfe, .ref eM, .ref eK, .ref eG, .ref eR, .long Mbo, .long Mro, .int Mus, .ref eN, .ref eW, .ref eV, .int Mne, .ref eA, .long Mca, .long Mga, .long Mgl, .long Mfl, .long Mst, .ref eH, .ref eX, .ref eY, .ref eZ, .int Mhp, .int Mpl])), (eM, .inl (cI, 30, .inl Mfm)), (eK, .inl (cI, 30, .inl Mfk)), (eG, .inl (cI, 30, .inl Mfg))] sz) := by
  refine Met.ofW (cc := b_Mo_feed) (maxL := 4) (ret := (some .boolean)) (by decide) rfl ?_
  intro p e s m args below meth c s₁ B hml hv
  obtain ⟨rfl, hsz, hP, hK, hN, hD0⟩ := hv
  have hx := B.exec
  have hb := B.bytes
  have hr := B.returns
  have hts := atoms_spec (ws := w_Mo_feed) B.pre
  have hown : s.vm.findClass R_Mo = some m.cls := findClass_of_methodNamed B.named
  have hlocks := B.notSynchronized
  have hwg : ∀ w ∈ wg, w.before ([.ref y0, .int p1, .int p2, .int p3] : List Value).toArray s = true := fun w h => hts w (List.mem_cons_of_mem _ h)
  subst hsz
  have hD := hD0.self (sz := s.heap.size)
  generalize hAe : va_A [(y0, .inr (7, [.ref eS, .ref eP, .int Mfe, .ref eM, .ref eK, .ref eG, .ref eR, .long Mbo, .long Mro, .int Mus, .ref eN, .ref eW, .ref eV, .int Mne, .ref eA, .long Mca, .long Mga, .long Mgl, .long Mfl, .long Mst, .ref eH, .ref eX, .ref eY, .ref eZ, .int Mhp, .int Mpl])), (eM, .inl (cI, 30, .inl Mfm)), (eK, .inl (cI, 30, .inl Mfk)), (eG, .inl (cI, 30, .inl Mfg))] s.heap.size = A at hD ⊢
  have hA : ∀ q : Nat, s.heap.size ≤ q → A q := fun q h => by rw [← hAe]; exact Or.inr h
  have hS : va_S A s.heap s.heap [] := va_S.rf
  have hP : va_P (dC, dI) vwCl [(y0, .inr (7, [.ref eS, .ref eP, .int Mfe, .ref eM, .ref eK, .ref eG, .ref eR, .long Mbo, .long Mro, .int Mus, .ref eN, .ref eW, .ref eV, .int Mne, .ref eA, .long Mca, .long Mga, .long Mgl, .long Mfl, .long Mst, .ref eH, .ref eX, .ref eY, .ref eZ, .int Mhp, .int Mpl])), (eM, .inl (cI, 30, .inl Mfm)), (eK, .inl (cI, 30, .inl Mfk)), (eG, .inl (cI, 30, .inl Mfg))] s.heap := hP
  have hl := lv_entry ([.ref y0, .int p1, .int p2, .int p3]) (n := 4) (Nat.le_of_ble_eq_true rfl)
  rw [lg_entry_eq]
  generalize (lg_sl ([.ref y0, .int p1, .int p2, .int p3]) ++ List.replicate (4 - (lg_sl ([.ref y0, .int p1, .int p2, .int p3])).length) Slot.unset).toArray = ls at hl ⊢
  have hl : lv_has ls 4 [(0, .ref y0), (1, .int p1), (2, .int p2), (3, .int p3)] := hl
  refine lv_iload_n hx hb d_Mo_feed_0 rfl (lv_at hl 1 rfl) ?_
  refine lv_i2l hx hb d_Mo_feed_1 rfl ?_
  refine lv_aload_n hx hb d_Mo_feed_2 rfl (lv_at hl 0 rfl) ?_
  refine va_get (D := (dC, dI)) (ci := 7) (v := .int Mne) (C := R_Mo) (T := F_Mo) (N := 26) hx hb hwg iu_Mo hown hK hP 0 rfl rfl 13 (by decide) (hwg _ kw_335) (fun _ h9 => h9) rfl d_Mo_feed_3 ?_
  refine lv_i2l hx hb d_Mo_feed_6 rfl ?_
  refine lv_ldc2 hx hb hown (hwg _ kw_371) d_Mo_feed_7 ?_
  have hPc := hP.sub (ws' := []) [] rfl
  have hDc := hD.sub (ws' := []) [] (by decide) rfl
  refine k_calli hP hD hS hA [] [0, 1, 2, 3] (wc := []) (wr := [(y0, .inr (7, [.ref eS, .ref eP, .int Mfe, .ref eM, .ref eK, .ref eG, .ref eR, .long Mbo, .long Mro, .int Mus, .ref eN, .ref eW, .ref eV, .int Mne, .ref eA, .long Mca, .long Mga, .long Mgl, .long Mfl, .long Mst, .ref eH, .ref eX, .ref eY, .ref eZ, .int Mhp, .int Mpl])), (eM, .inl (cI, 30, .inl Mfm)), (eK, .inl (cI, 30, .inl Mfk)), (eG, .inl (cI, 30, .inl Mfg))]) rfl rfl (by decide) (by decide) (va_runS (As := [.long (Int32.toInt64 p1), .long (Int32.toInt64 Mne), .long 9999]) (rest := []) ⟨hx, hb, hml, hown, hwg⟩ (c_Mo_isIn l dC dI cI cL cZ s.heap.size (Int32.toInt64 p1) (Int32.toInt64 Mne) 9999) (va_cwS 3 hwg (g_S kw_357 kw_358 kw_21 kw_359) rfl rfl rfl (by decide +kernel) ⟨Nat.le_of_ble_eq_true rfl, Nat.le_of_ble_eq_true rfl⟩) ⟨c_pre_call, c_pre_mk hPc hDc hK hN _⟩ rfl rfl hl.1 rfl (lv_room (Nat.le_of_ble_eq_true rfl)) d_Mo_feed_10 ⟨Nat.le_of_ble_eq_true rfl, Nat.le_of_ble_eq_true rfl⟩) (fun r10 u H10 locs w10 hz1 hP hD hS => ?_)
  have hP := hP.sub (ws' := [(y0, .inr (7, [.ref eS, .ref eP, .int Mfe, .ref eM, .ref eK, .ref eG, .ref eR, .long Mbo, .long Mro, .int Mus, .ref eN, .ref eW, .ref eV, .int Mne, .ref eA, .long Mca, .long Mga, .long Mgl, .long Mfl, .long Mst, .ref eH, .ref eX, .ref eY, .ref eZ, .int Mhp, .int Mpl])), (eM, .inl (cI, 30, .inl Mfm)), (eK, .inl (cI, 30, .inl Mfk)), (eG, .inl (cI, 30, .inl Mfg))]) [0, 1, 2, 3] rfl
  have hD := hD.sub (ws' := [(y0, .inr (7, [.ref eS, .ref eP, .int Mfe, .ref eM, .ref eK, .ref eG, .ref eR, .long Mbo, .long Mro, .int Mus, .ref eN, .ref eW, .ref eV, .int Mne, .ref eA, .long Mca, .long Mga, .long Mgl, .long Mfl, .long Mst, .ref eH, .ref eX, .ref eY, .ref eZ, .int Mhp, .int Mpl])), (eM, .inl (cI, 30, .inl Mfm)), (eK, .inl (cI, 30, .inl Mfk)), (eG, .inl (cI, 30, .inl Mfg))]) [0, 1, 2, 3] (by decide) rfl
  refine lv_if_eq (tgt := 44) hx hb d_Mo_feed_13 (by decide) (fun (c13 : r10 = 0) => ?_) (fun (c13 : ¬ (r10 = 0)) => ?_)
  · refine lv_iconst (v := 0) hx hb d_Mo_feed_44 (by decide) ?_
    have hP9 := hP.sub (ws' := [(y0, .inr (7, [.ref eS, .ref eP, .int Mfe, .ref eM, .ref eK, .ref eG, .ref eR, .long Mbo, .long Mro, .int Mus, .ref eN, .ref eW, .ref eV, .int Mne, .ref eA, .long Mca, .long Mga, .long Mgl, .long Mfl, .long Mst, .ref eH, .ref eX, .ref eY, .ref eZ, .int Mhp, .int Mpl])), (eM, .inl (cI, 30, .inl Mfm)), (eK, .inl (cI, 30, .inl Mfk)), (eG, .inl (cI, 30, .inl Mfg))]) [0, 1, 2, 3] rfl
    have hD9 := hD.sub (ws' := [(y0, .inr (7, [.ref eS, .ref eP, .int Mfe, .ref eM, .ref eK, .ref eG, .ref eR, .long Mbo, .long Mro, .int Mus, .ref eN, .ref eW, .ref eV, .int Mne, .ref eA, .long Mca, .long Mga, .long Mgl, .long Mfl, .long Mst, .ref eH, .ref eX, .ref eY, .ref eZ, .int Mhp, .int Mpl])), (eM, .inl (cI, 30, .inl Mfm)), (eK, .inl (cI, 30, .inl Mfk)), (eG, .inl (cI, 30, .inl Mfg))]) [0, 1, 2, 3] (by decide) rfl
    exact W.zret (ty := .boolean) (v := 0) hx hb hr rfl (fun t ht hW => ⟨⟨0, (Mfe, Mfm, Mfk, Mfg), rfl, by simp only [f_Mo_feed, w10, if_pos c13], by rw [ht]; exact hP9, hD9⟩, hS.F ht⟩) hS.2.2 d_Mo_feed_45
  · refine lv_iload_n hx hb d_Mo_feed_16 rfl (lv_at hl 2 rfl) ?_
    have hPc := hP.sub (ws' := []) [] rfl
    have hDc := hD.sub (ws' := []) [] (by decide) rfl
    refine k_calli hP hD hS hA [] [0, 1, 2, 3] (wc := []) (wr := [(y0, .inr (7, [.ref eS, .ref eP, .int Mfe, .ref eM, .ref eK, .ref eG, .ref eR, .long Mbo, .long Mro, .int Mus, .ref eN, .ref eW, .ref eV, .int Mne, .ref eA, .long Mca, .long Mga, .long Mgl, .long Mfl, .long Mst, .ref eH, .ref eX, .ref eY, .ref eZ, .int Mhp, .int Mpl])), (eM, .inl (cI, 30, .inl Mfm)), (eK, .inl (cI, 30, .inl Mfk)), (eG, .inl (cI, 30, .inl Mfg))]) rfl rfl (by decide) (by decide) (va_runS (As := [.int p2]) (rest := []) ⟨hx, hb, hml, hown, hwg⟩ (c_Mo_isKind l dC dI cI cL cZ H10.size p2) (va_cwS 1 hwg (g_S kw_353 kw_354 kw_21 kw_355) rfl rfl rfl (by decide +kernel) ⟨Nat.le_of_ble_eq_true rfl, Nat.le_of_ble_eq_true rfl⟩) ⟨c_pre_call, c_pre_mk hPc hDc hK hN _⟩ rfl rfl hl.1 rfl (lv_room (Nat.le_of_ble_eq_true rfl)) d_Mo_feed_17 ⟨Nat.le_of_ble_eq_true rfl, Nat.le_of_ble_eq_true rfl⟩) (fun r17 u H17 locs w17 hz1 hP hD hS => ?_)
    have hP := hP.sub (ws' := [(y0, .inr (7, [.ref eS, .ref eP, .int Mfe, .ref eM, .ref eK, .ref eG, .ref eR, .long Mbo, .long Mro, .int Mus, .ref eN, .ref eW, .ref eV, .int Mne, .ref eA, .long Mca, .long Mga, .long Mgl, .long Mfl, .long Mst, .ref eH, .ref eX, .ref eY, .ref eZ, .int Mhp, .int Mpl])), (eM, .inl (cI, 30, .inl Mfm)), (eK, .inl (cI, 30, .inl Mfk)), (eG, .inl (cI, 30, .inl Mfg))]) [0, 1, 2, 3] rfl
    have hD := hD.sub (ws' := [(y0, .inr (7, [.ref eS, .ref eP, .int Mfe, .ref eM, .ref eK, .ref eG, .ref eR, .long Mbo, .long Mro, .int Mus, .ref eN, .ref eW, .ref eV, .int Mne, .ref eA, .long Mca, .long Mga, .long Mgl, .long Mfl, .long Mst, .ref eH, .ref eX, .ref eY, .ref eZ, .int Mhp, .int Mpl])), (eM, .inl (cI, 30, .inl Mfm)), (eK, .inl (cI, 30, .inl Mfk)), (eG, .inl (cI, 30, .inl Mfg))]) [0, 1, 2, 3] (by decide) rfl
    refine lv_if_eq (tgt := 44) hx hb d_Mo_feed_20 (by decide) (fun (c20 : r17 = 0) => ?_) (fun (c20 : ¬ (r17 = 0)) => ?_)
    · refine lv_iconst (v := 0) hx hb d_Mo_feed_44 (by decide) ?_
      have hP9 := hP.sub (ws' := [(y0, .inr (7, [.ref eS, .ref eP, .int Mfe, .ref eM, .ref eK, .ref eG, .ref eR, .long Mbo, .long Mro, .int Mus, .ref eN, .ref eW, .ref eV, .int Mne, .ref eA, .long Mca, .long Mga, .long Mgl, .long Mfl, .long Mst, .ref eH, .ref eX, .ref eY, .ref eZ, .int Mhp, .int Mpl])), (eM, .inl (cI, 30, .inl Mfm)), (eK, .inl (cI, 30, .inl Mfk)), (eG, .inl (cI, 30, .inl Mfg))]) [0, 1, 2, 3] rfl
      have hD9 := hD.sub (ws' := [(y0, .inr (7, [.ref eS, .ref eP, .int Mfe, .ref eM, .ref eK, .ref eG, .ref eR, .long Mbo, .long Mro, .int Mus, .ref eN, .ref eW, .ref eV, .int Mne, .ref eA, .long Mca, .long Mga, .long Mgl, .long Mfl, .long Mst, .ref eH, .ref eX, .ref eY, .ref eZ, .int Mhp, .int Mpl])), (eM, .inl (cI, 30, .inl Mfm)), (eK, .inl (cI, 30, .inl Mfk)), (eG, .inl (cI, 30, .inl Mfg))]) [0, 1, 2, 3] (by decide) rfl
      exact W.zret (ty := .boolean) (v := 0) hx hb hr rfl (fun t ht hW => ⟨⟨0, (Mfe, Mfm, Mfk, Mfg), rfl, by simp only [f_Mo_feed, w10, if_neg c13, w17, if_pos c20], by rw [ht]; exact hP9, hD9⟩, hS.F ht⟩) hS.2.2 d_Mo_feed_45
    · refine lv_iload_n hx hb d_Mo_feed_23 rfl (lv_at hl 3 rfl) ?_
      refine lv_i2l hx hb d_Mo_feed_24 rfl ?_
      refine lv_lconst (v := 1) hx hb d_Mo_feed_25 (by decide) ?_
      refine lv_ldc2 hx hb hown (hwg _ kw_372) d_Mo_feed_26 ?_
      have hPc := hP.sub (ws' := []) [] rfl
      have hDc := hD.sub (ws' := []) [] (by decide) rfl
      refine k_calli hP hD hS hA [] [0, 1, 2, 3] (wc := []) (wr := [(y0, .inr (7, [.ref eS, .ref eP, .int Mfe, .ref eM, .ref eK, .ref eG, .ref eR, .long Mbo, .long Mro, .int Mus, .ref eN, .ref eW, .ref eV, .int Mne, .ref eA, .long Mca, .long Mga, .long Mgl, .long Mfl, .long Mst, .ref eH, .ref eX, .ref eY, .ref eZ, .int Mhp, .int Mpl])), (eM, .inl (cI, 30, .inl Mfm)), (eK, .inl (cI, 30, .inl Mfk)), (eG, .inl (cI, 30, .inl Mfg))]) rfl rfl (by decide) (by decide) (va_runS (As := [.long (Int32.toInt64 p3), .long 1, .long 100000]) (rest := []) ⟨hx, hb, hml, hown, hwg⟩ (c_Mo_isIn l dC dI cI cL cZ H17.size (Int32.toInt64 p3) 1 100000) (va_cwS 3 hwg (g_S kw_357 kw_358 kw_21 kw_359) rfl rfl rfl (by decide +kernel) ⟨Nat.le_of_ble_eq_true rfl, Nat.le_of_ble_eq_true rfl⟩) ⟨c_pre_call, c_pre_mk hPc hDc hK hN _⟩ rfl rfl hl.1 rfl (lv_room (Nat.le_of_ble_eq_true rfl)) d_Mo_feed_29 ⟨Nat.le_of_ble_eq_true rfl, Nat.le_of_ble_eq_true rfl⟩) (fun r29 u H29 locs w29 hz1 hP hD hS => ?_)
      have hP := hP.sub (ws' := [(y0, .inr (7, [.ref eS, .ref eP, .int Mfe, .ref eM, .ref eK, .ref eG, .ref eR, .long Mbo, .long Mro, .int Mus, .ref eN, .ref eW, .ref eV, .int Mne, .ref eA, .long Mca, .long Mga, .long Mgl, .long Mfl, .long Mst, .ref eH, .ref eX, .ref eY, .ref eZ, .int Mhp, .int Mpl])), (eM, .inl (cI, 30, .inl Mfm)), (eK, .inl (cI, 30, .inl Mfk)), (eG, .inl (cI, 30, .inl Mfg))]) [0, 1, 2, 3] rfl
      have hD := hD.sub (ws' := [(y0, .inr (7, [.ref eS, .ref eP, .int Mfe, .ref eM, .ref eK, .ref eG, .ref eR, .long Mbo, .long Mro, .int Mus, .ref eN, .ref eW, .ref eV, .int Mne, .ref eA, .long Mca, .long Mga, .long Mgl, .long Mfl, .long Mst, .ref eH, .ref eX, .ref eY, .ref eZ, .int Mhp, .int Mpl])), (eM, .inl (cI, 30, .inl Mfm)), (eK, .inl (cI, 30, .inl Mfk)), (eG, .inl (cI, 30, .inl Mfg))]) [0, 1, 2, 3] (by decide) rfl
      refine lv_if_eq (tgt := 44) hx hb d_Mo_feed_32 (by decide) (fun (c32 : r29 = 0) => ?_) (fun (c32 : ¬ (r29 = 0)) => ?_)
      · refine lv_iconst (v := 0) hx hb d_Mo_feed_44 (by decide) ?_
        have hP9 := hP.sub (ws' := [(y0, .inr (7, [.ref eS, .ref eP, .int Mfe, .ref eM, .ref eK, .ref eG, .ref eR, .long Mbo, .long Mro, .int Mus, .ref eN, .ref eW, .ref eV, .int Mne, .ref eA, .long Mca, .long Mga, .long Mgl, .long Mfl, .long Mst, .ref eH, .ref eX, .ref eY, .ref eZ, .int Mhp, .int Mpl])), (eM, .inl (cI, 30, .inl Mfm)), (eK, .inl (cI, 30, .inl Mfk)), (eG, .inl (cI, 30, .inl Mfg))]) [0, 1, 2, 3] rfl
        have hD9 := hD.sub (ws' := [(y0, .inr (7, [.ref eS, .ref eP, .int Mfe, .ref eM, .ref eK, .ref eG, .ref eR, .long Mbo, .long Mro, .int Mus, .ref eN, .ref eW, .ref eV, .int Mne, .ref eA, .long Mca, .long Mga, .long Mgl, .long Mfl, .long Mst, .ref eH, .ref eX, .ref eY, .ref eZ, .int Mhp, .int Mpl])), (eM, .inl (cI, 30, .inl Mfm)), (eK, .inl (cI, 30, .inl Mfk)), (eG, .inl (cI, 30, .inl Mfg))]) [0, 1, 2, 3] (by decide) rfl
        exact W.zret (ty := .boolean) (v := 0) hx hb hr rfl (fun t ht hW => ⟨⟨0, (Mfe, Mfm, Mfk, Mfg), rfl, by simp only [f_Mo_feed, w10, if_neg c13, w17, if_neg c20, w29, if_pos c32], by rw [ht]; exact hP9, hD9⟩, hS.F ht⟩) hS.2.2 d_Mo_feed_45
      · refine lv_aload_n hx hb d_Mo_feed_35 rfl (lv_at hl 0 rfl) ?_
        refine va_get (D := (dC, dI)) (ci := 7) (v := .int Mfe) (C := R_Mo) (T := F_Mo) (N := 26) hx hb hwg iu_Mo hown hK hP 0 rfl rfl 2 (by decide) (hwg _ kw_324) (fun _ h9 => h9) rfl d_Mo_feed_36 ?_
        refine lv_bipush (v := 30) hx hb d_Mo_feed_39 (by decide) ?_
        refine lv_icmp_ne (tgt := 46) hx hb d_Mo_feed_41 (by decide) (fun (c41 : ¬ (Mfe = 30)) => ?_) (fun (c41 : Mfe = 30) => ?_)
        · refine lv_aload_n hx hb d_Mo_feed_46 rfl (lv_at hl 0 rfl) ?_
          refine va_get (D := (dC, dI)) (ci := 7) (v := .ref eM) (C := R_Mo) (T := F_Mo) (N := 26) hx hb hwg iu_Mo hown hK hP 0 rfl rfl 3 (by decide) (hwg _ kw_325) (fun _ h9 => h9) rfl d_Mo_feed_47 ?_
          refine lv_aload_n hx hb d_Mo_feed_50 rfl (lv_at hl 0 rfl) ?_
          refine va_get (D := (dC, dI)) (ci := 7) (v := .int Mfe) (C := R_Mo) (T := F_Mo) (N := 26) hx hb hwg iu_Mo hown hK hP 0 rfl rfl 2 (by decide) (hwg _ kw_324) (fun _ h9 => h9) rfl d_Mo_feed_51 ?_
          refine lv_iload_n hx hb d_Mo_feed_54 rfl (lv_at hl 1 rfl) ?_
          refine va_iast hx hb hK hP hD hS 1 0 rfl rfl (in_fe hfe c41) d_Mo_feed_55 (fun H55 locs hP hD hS => ?_)
          have hP : va_P (dC, dI) vwCl [(y0, .inr (7, [.ref eS, .ref eP, .int Mfe, .ref eM, .ref eK, .ref eG, .ref eR, .long Mbo, .long Mro, .int Mus, .ref eN, .ref eW, .ref eV, .int Mne, .ref eA, .long Mca, .long Mga, .long Mgl, .long Mfl, .long Mst, .ref eH, .ref eX, .ref eY, .ref eZ, .int Mhp, .int Mpl])), (eM, .inl (cI, 30, .inl (upd Mfm (Int32.toNatClampNeg Mfe) p1))), (eK, .inl (cI, 30, .inl Mfk)), (eG, .inl (cI, 30, .inl Mfg))] H55 := hP
          have hD : va_D A [(y0, .inr (7, [.ref eS, .ref eP, .int Mfe, .ref eM, .ref eK, .ref eG, .ref eR, .long Mbo, .long Mro, .int Mus, .ref eN, .ref eW, .ref eV, .int Mne, .ref eA, .long Mca, .long Mga, .long Mgl, .long Mfl, .long Mst, .ref eH, .ref eX, .ref eY, .ref eZ, .int Mhp, .int Mpl])), (eM, .inl (cI, 30, .inl (upd Mfm (Int32.toNatClampNeg Mfe) p1))), (eK, .inl (cI, 30, .inl Mfk)), (eG, .inl (cI, 30, .inl Mfg))] := hD
          refine lv_aload_n hx hb d_Mo_feed_56 rfl (lv_at hl 0 rfl) ?_
          refine va_get (D := (dC, dI)) (ci := 7) (v := .ref eK) (C := R_Mo) (T := F_Mo) (N := 26) hx hb hwg iu_Mo hown hK hP 0 rfl rfl 4 (by decide) (hwg _ kw_326) (fun _ h9 => h9) rfl d_Mo_feed_57 ?_
          refine lv_aload_n hx hb d_Mo_feed_60 rfl (lv_at hl 0 rfl) ?_
          refine va_get (D := (dC, dI)) (ci := 7) (v := .int Mfe) (C := R_Mo) (T := F_Mo) (N := 26) hx hb hwg iu_Mo hown hK hP 0 rfl rfl 2 (by decide) (hwg _ kw_324) (fun _ h9 => h9) rfl d_Mo_feed_61 ?_
          refine lv_iload_n hx hb d_Mo_feed_64 rfl (lv_at hl 2 rfl) ?_
          refine va_iast hx hb hK hP hD hS 2 0 rfl rfl (in_fe hfe c41) d_Mo_feed_65 (fun H65 locs hP hD hS => ?_)
          have hP : va_P (dC, dI) vwCl [(y0, .inr (7, [.ref eS, .ref eP, .int Mfe, .ref eM, .ref eK, .ref eG, .ref eR, .long Mbo, .long Mro, .int Mus, .ref eN, .ref eW, .ref eV, .int Mne, .ref eA, .long Mca, .long Mga, .long Mgl, .long Mfl, .long Mst, .ref eH, .ref eX, .ref eY, .ref eZ, .int Mhp, .int Mpl])), (eM, .inl (cI, 30, .inl (upd Mfm (Int32.toNatClampNeg Mfe) p1))), (eK, .inl (cI, 30, .inl (upd Mfk (Int32.toNatClampNeg Mfe) p2))), (eG, .inl (cI, 30, .inl Mfg))] H65 := hP
          have hD : va_D A [(y0, .inr (7, [.ref eS, .ref eP, .int Mfe, .ref eM, .ref eK, .ref eG, .ref eR, .long Mbo, .long Mro, .int Mus, .ref eN, .ref eW, .ref eV, .int Mne, .ref eA, .long Mca, .long Mga, .long Mgl, .long Mfl, .long Mst, .ref eH, .ref eX, .ref eY, .ref eZ, .int Mhp, .int Mpl])), (eM, .inl (cI, 30, .inl (upd Mfm (Int32.toNatClampNeg Mfe) p1))), (eK, .inl (cI, 30, .inl (upd Mfk (Int32.toNatClampNeg Mfe) p2))), (eG, .inl (cI, 30, .inl Mfg))] := hD
          refine lv_aload_n hx hb d_Mo_feed_66 rfl (lv_at hl 0 rfl) ?_
          refine va_get (D := (dC, dI)) (ci := 7) (v := .ref eG) (C := R_Mo) (T := F_Mo) (N := 26) hx hb hwg iu_Mo hown hK hP 0 rfl rfl 5 (by decide) (hwg _ kw_327) (fun _ h9 => h9) rfl d_Mo_feed_67 ?_
          refine lv_aload_n hx hb d_Mo_feed_70 rfl (lv_at hl 0 rfl) ?_
          refine va_get (D := (dC, dI)) (ci := 7) (v := .int Mfe) (C := R_Mo) (T := F_Mo) (N := 26) hx hb hwg iu_Mo hown hK hP 0 rfl rfl 2 (by decide) (hwg _ kw_324) (fun _ h9 => h9) rfl d_Mo_feed_71 ?_
          refine lv_iload_n hx hb d_Mo_feed_74 rfl (lv_at hl 3 rfl) ?_
          refine va_iast hx hb hK hP hD hS 3 0 rfl rfl (in_fe hfe c41) d_Mo_feed_75 (fun H75 locs hP hD hS => ?_)
          have hP : va_P (dC, dI) vwCl [(y0, .inr (7, [.ref eS, .ref eP, .int Mfe, .ref eM, .ref eK, .ref eG, .ref eR, .long Mbo, .long Mro, .int Mus, .ref eN, .ref eW, .ref eV, .int Mne, .ref eA, .long Mca, .long Mga, .long Mgl, .long Mfl, .long Mst, .ref eH, .ref eX, .ref eY, .ref eZ, .int Mhp, .int Mpl])), (eM, .inl (cI, 30, .inl (upd Mfm (Int32.toNatClampNeg Mfe) p1))), (eK, .inl (cI, 30, .inl (upd Mfk (Int32.toNatClampNeg Mfe) p2))), (eG, .inl (cI, 30, .inl (upd Mfg (Int32.toNatClampNeg Mfe) p3)))] H75 := hP
          have hD : va_D A [(y0, .inr (7, [.ref eS, .ref eP, .int Mfe, .ref eM, .ref eK, .ref eG, .ref eR, .long Mbo, .long Mro, .int Mus, .ref eN, .ref eW, .ref eV, .int Mne, .ref eA, .long Mca, .long Mga, .long Mgl, .long Mfl, .long Mst, .ref eH, .ref eX, .ref eY, .ref eZ, .int Mhp, .int Mpl])), (eM, .inl (cI, 30, .inl (upd Mfm (Int32.toNatClampNeg Mfe) p1))), (eK, .inl (cI, 30, .inl (upd Mfk (Int32.toNatClampNeg Mfe) p2))), (eG, .inl (cI, 30, .inl (upd Mfg (Int32.toNatClampNeg Mfe) p3)))] := hD
          refine lv_aload_n hx hb d_Mo_feed_76 rfl (lv_at hl 0 rfl) ?_
          refine lv_dup hx hb d_Mo_feed_77 rfl ?_
          refine va_get (D := (dC, dI)) (ci := 7) (v := .int Mfe) (C := R_Mo) (T := F_Mo) (N := 26) hx hb hwg iu_Mo hown hK hP 0 rfl rfl 2 (by decide) (hwg _ kw_324) (fun _ h9 => h9) rfl d_Mo_feed_78 ?_
          refine lv_iconst (v := 1) hx hb d_Mo_feed_81 (by decide) ?_
          refine lv_iadd hx hb d_Mo_feed_82 ?_
          refine va_put (D := (dC, dI)) (ci := 7) (v := .int (Mfe + 1)) (ty := .int) (C := R_Mo) (T := F_Mo) (N := 26) hx hb hwg iu_Mo t_Mo t_Mo_ok n_Mo hown hK hP hD hS 0 rfl rfl 2 (by decide) (hwg _ kw_324) (fun _ h9 => h9) rfl (by decide +kernel) rfl rfl (Nat.le_of_ble_eq_true rfl) d_Mo_feed_83 (fun H83 locs hP hD hS => ?_)
          have hP : va_P (dC, dI) vwCl [(y0, .inr (7, [.ref eS, .ref eP, .int (Mfe + 1), .ref eM, .ref eK, .ref eG, .ref eR, .long Mbo, .long Mro, .int Mus, .ref eN, .ref eW, .ref eV, .int Mne, .ref eA, .long Mca, .long Mga, .long Mgl, .long Mfl, .long Mst, .ref eH, .ref eX, .ref eY, .ref eZ, .int Mhp, .int Mpl])), (eM, .inl (cI, 30, .inl (upd Mfm (Int32.toNatClampNeg Mfe) p1))), (eK, .inl (cI, 30, .inl (upd Mfk (Int32.toNatClampNeg Mfe) p2))), (eG, .inl (cI, 30, .inl (upd Mfg (Int32.toNatClampNeg Mfe) p3)))] H83 := hP
          have hD : va_D A [(y0, .inr (7, [.ref eS, .ref eP, .int (Mfe + 1), .ref eM, .ref eK, .ref eG, .ref eR, .long Mbo, .long Mro, .int Mus, .ref eN, .ref eW, .ref eV, .int Mne, .ref eA, .long Mca, .long Mga, .long Mgl, .long Mfl, .long Mst, .ref eH, .ref eX, .ref eY, .ref eZ, .int Mhp, .int Mpl])), (eM, .inl (cI, 30, .inl (upd Mfm (Int32.toNatClampNeg Mfe) p1))), (eK, .inl (cI, 30, .inl (upd Mfk (Int32.toNatClampNeg Mfe) p2))), (eG, .inl (cI, 30, .inl (upd Mfg (Int32.toNatClampNeg Mfe) p3)))] := hD
          refine lv_iconst (v := 1) hx hb d_Mo_feed_86 (by decide) ?_
          have hP9 := hP.sub (ws' := [(y0, .inr (7, [.ref eS, .ref eP, .int (Mfe + 1), .ref eM, .ref eK, .ref eG, .ref eR, .long Mbo, .long Mro, .int Mus, .ref eN, .ref eW, .ref eV, .int Mne, .ref eA, .long Mca, .long Mga, .long Mgl, .long Mfl, .long Mst, .ref eH, .ref eX, .ref eY, .ref eZ, .int Mhp, .int Mpl])), (eM, .inl (cI, 30, .inl (upd Mfm (Int32.toNatClampNeg Mfe) p1))), (eK, .inl (cI, 30, .inl (upd Mfk (Int32.toNatClampNeg Mfe) p2))), (eG, .inl (cI, 30, .inl (upd Mfg (Int32.toNatClampNeg Mfe) p3)))]) [0, 1, 2, 3] rfl
          have hD9 := hD.sub (ws' := [(y0, .inr (7, [.ref eS, .ref eP, .int (Mfe + 1), .ref eM, .ref eK, .ref eG, .ref eR, .long Mbo, .long Mro, .int Mus, .ref eN, .ref eW, .ref eV, .int Mne, .ref eA, .long Mca, .long Mga, .long Mgl, .long Mfl, .long Mst, .ref eH, .ref eX, .ref eY, .ref eZ, .int Mhp, .int Mpl])), (eM, .inl (cI, 30, .inl (upd Mfm (Int32.toNatClampNeg Mfe) p1))), (eK, .inl (cI, 30, .inl (upd Mfk (Int32.toNatClampNeg Mfe) p2))), (eG, .inl (cI, 30, .inl (upd Mfg (Int32.toNatClampNeg Mfe) p3)))]) [0, 1, 2, 3] (by decide) rfl
          exact W.zret (ty := .boolean) (v := 1) hx hb hr rfl (fun t ht hW => ⟨⟨1, (Mfe + 1, upd Mfm (Int32.toNatClampNeg Mfe) p1, upd Mfk (Int32.toNatClampNeg Mfe) p2, upd Mfg (Int32.toNatClampNeg Mfe) p3), rfl, by simp only [f_Mo_feed, w10, if_neg c13, w17, if_neg c20, w29, if_neg c32, if_neg c41], by rw [ht]; exact hP9, hD9⟩, hS.F ht⟩) hS.2.2 d_Mo_feed_87
        · refine lv_iconst (v := 0) hx hb d_Mo_feed_44 (by decide) ?_
          have hP9 := hP.sub (ws' := [(y0, .inr (7, [.ref eS, .ref eP, .int Mfe, .ref eM, .ref eK, .ref eG, .ref eR, .long Mbo, .long Mro, .int Mus, .ref eN, .ref eW, .ref eV, .int Mne, .ref eA, .long Mca, .long Mga, .long Mgl, .long Mfl, .long Mst, .ref eH, .ref eX, .ref eY, .ref eZ, .int Mhp, .int Mpl])), (eM, .inl (cI, 30, .inl Mfm)), (eK, .inl (cI, 30, .inl Mfk)), (eG, .inl (cI, 30, .inl Mfg))]) [0, 1, 2, 3] rfl
          have hD9 := hD.sub (ws' := [(y0, .inr (7, [.ref eS, .ref eP, .int Mfe, .ref eM, .ref eK, .ref eG, .ref eR, .long Mbo, .long Mro, .int Mus, .ref eN, .ref eW, .ref eV, .int Mne, .ref eA, .long Mca, .long Mga, .long Mgl, .long Mfl, .long Mst, .ref eH, .ref eX, .ref eY, .ref eZ, .int Mhp, .int Mpl])), (eM, .inl (cI, 30, .inl Mfm)), (eK, .inl (cI, 30, .inl Mfk)), (eG, .inl (cI, 30, .inl Mfg))]) [0, 1, 2, 3] (by decide) rfl
          exact W.zret (ty := .boolean) (v := 0) hx hb hr rfl (fun t ht hW => ⟨⟨0, (Mfe, Mfm, Mfk, Mfg), rfl, by simp only [f_Mo_feed, w10, if_neg c13, w17, if_neg c20, w29, if_neg c32, if_pos c41], by rw [ht]; exact hP9, hD9⟩, hS.F ht⟩) hS.2.2 d_Mo_feed_45
def f_Mo_rate (Mrt : Nat → Int32) (p1 : Int32) (p2 : Int32) : Int32 × (Nat → Int32) := let r6 := f_Mo_isIn (Int32.toInt64 p1) 0 2; if r6 = 0 then ((0, Mrt)) else (let r18 := f_Mo_isIn (Int32.toInt64 p2) 0 1000000; if r18 = 0 then ((0, Mrt)) else ((1, upd Mrt (Int32.toNatClampNeg p1) p2)))
abbrev rm_Mo_rate : Room := { frames := 1, cells := 0, slots := 0, locals := 25 }
set_option maxHeartbeats 4000000 in
set_option maxRecDepth 100000 in
theorem c_Mo_rate (l : Launch) (dC : Nat → ClassId) (dI : Nat → Nat → Nat) (cI cL cZ : ClassId) (y0 eS eP eM eK eG eR eN eW eV eA eH eX eY eZ : Nat) (sz : Nat) (Mfe : Int32) (Mbo : Int64) (Mro : Int64) (Mus : Int32) (Mne : Int32) (Mca : Int64) (Mga : Int64) (Mgl : Int64) (Mfl : Int64) (Mst : Int64) (Mhp : Int32) (Mpl : Int32) (Mrt : Nat → Int32) (p1 : Int32) (p2 : Int32) : Met l y_Mo_rate w_Mo_rate rm_Mo_rate (va_Pc [.ref y0, .int p1, .int p2] (c_pre dC dI cI cL cZ [(y0, .inr (7, [.ref eS, .ref eP, .int Mfe, .ref eM, .ref eK, .ref eG, .ref eR, .long Mbo, .long Mro, .int Mus, .ref eN, .ref eW, .ref eV, .int Mne, .ref eA, .long Mca, .long Mga, .long Mgl, .long Mfl, .long Mst, .ref eH, .ref eX, .ref eY, .ref eZ, .int Mhp, .int Mpl])), (eR, .inl (cI, 3, .inl Mrt))] sz)) (va_Qi (fun (r : Int32) (u : (Nat → Int32)) => f_Mo_rate Mrt p1 p2 = (r, u)) (c_post dC dI (fun (u : (Nat → Int32)) => [(y0, .inr (7, [.ref eS, .ref eP, .int Mfe, .ref eM, .ref eK, .ref eG, .ref eR, .long Mbo, .long Mro, .int Mus, .ref eN, .ref eW, .ref eV, .int Mne, .ref eA, .long Mca, .long Mga, .long Mgl, .long Mfl, .long Mst, .ref eH, .ref eX, .ref eY, .ref eZ, .int Mhp, .int Mpl])), (eR, .inl (cI, 3, .inl u))]) (va_A [(y0, .inr (7, [.ref eS, .ref eP, .int Mfe, .ref eM, .ref eK, .ref eG, .ref eR, .long Mbo, .long Mro, .int Mus, .ref eN, .ref eW, .ref eV, .int Mne, .ref eA, .long Mca, .long Mga, .long Mgl, .long Mfl, .long Mst, .ref eH, .ref eX, .ref eY, .ref eZ, .int Mhp, .int Mpl])), (eR, .inl (cI, 3, .inl Mrt))] sz)) (va_A [(y0, .inr (7, [.ref eS, .ref eP, .int Mfe, .ref eM, .ref eK, .ref eG, .ref eR, .long Mbo, .long Mro, .int Mus, .ref eN, .ref eW, .ref eV, .int Mne, .ref eA, .long Mca, .long Mga, .long Mgl, .long Mfl, .long Mst, .ref eH, .ref eX, .ref eY, .ref eZ, .int Mhp, .int Mpl])), (eR, .inl (cI, 3, .inl Mrt))] sz)) 0 0 (va_A [(y0, .inr (7, [.ref eS, .ref eP, .int Mfe, .ref eM, .ref eK, .ref eG, .ref eR, .long Mbo, .long Mro, .int Mus, .ref eN, .ref eW, .ref eV, .int Mne, .ref eA, .long Mca, .long Mga, .long Mgl, .long Mfl, .long Mst, .ref eH, .ref eX, .ref eY, .ref eZ, .int Mhp, .int Mpl])), (eR, .inl (cI, 3, .inl Mrt))] sz) := by
  refine Met.ofW (cc := b_Mo_rate) (maxL := 3) (ret := (some .boolean)) (by decide) rfl ?_
  intro p e s m args below meth c s₁ B hml hv
  obtain ⟨rfl, hsz, hP, hK, hN, hD0⟩ := hv
  have hx := B.exec
  have hb := B.bytes
  have hr := B.returns
  have hts := atoms_spec (ws := w_Mo_rate) B.pre
  have hown : s.vm.findClass R_Mo = some m.cls := findClass_of_methodNamed B.named
  have hlocks := B.notSynchronized
  have hwg : ∀ w ∈ wg, w.before ([.ref y0, .int p1, .int p2] : List Value).toArray s = true := fun w h => hts w (List.mem_cons_of_mem _ h)
  subst hsz
  have hD := hD0.self (sz := s.heap.size)
  generalize hAe : va_A [(y0, .inr (7, [.ref eS, .ref eP, .int Mfe, .ref eM, .ref eK, .ref eG, .ref eR, .long Mbo, .long Mro, .int Mus, .ref eN, .ref eW, .ref eV, .int Mne, .ref eA, .long Mca, .long Mga, .long Mgl, .long Mfl, .long Mst, .ref eH, .ref eX, .ref eY, .ref eZ, .int Mhp, .int Mpl])), (eR, .inl (cI, 3, .inl Mrt))] s.heap.size = A at hD ⊢
  have hA : ∀ q : Nat, s.heap.size ≤ q → A q := fun q h => by rw [← hAe]; exact Or.inr h
  have hS : va_S A s.heap s.heap [] := va_S.rf
  have hP : va_P (dC, dI) vwCl [(y0, .inr (7, [.ref eS, .ref eP, .int Mfe, .ref eM, .ref eK, .ref eG, .ref eR, .long Mbo, .long Mro, .int Mus, .ref eN, .ref eW, .ref eV, .int Mne, .ref eA, .long Mca, .long Mga, .long Mgl, .long Mfl, .long Mst, .ref eH, .ref eX, .ref eY, .ref eZ, .int Mhp, .int Mpl])), (eR, .inl (cI, 3, .inl Mrt))] s.heap := hP
  have hl := lv_entry ([.ref y0, .int p1, .int p2]) (n := 3) (Nat.le_of_ble_eq_true rfl)
  rw [lg_entry_eq]
  generalize (lg_sl ([.ref y0, .int p1, .int p2]) ++ List.replicate (3 - (lg_sl ([.ref y0, .int p1, .int p2])).length) Slot.unset).toArray = ls at hl ⊢
  have hl : lv_has ls 3 [(0, .ref y0), (1, .int p1), (2, .int p2)] := hl
  refine lv_iload_n hx hb d_Mo_rate_0 rfl (lv_at hl 1 rfl) ?_
  refine lv_i2l hx hb d_Mo_rate_1 rfl ?_
  refine lv_lconst (v := 0) hx hb d_Mo_rate_2 (by decide) ?_
  refine lv_ldc2 hx hb hown (hwg _ kw_356) d_Mo_rate_3 ?_
  have hPc := hP.sub (ws' := []) [] rfl
  have hDc := hD.sub (ws' := []) [] (by decide) rfl
  refine k_calli hP hD hS hA [] [0, 1] (wc := []) (wr := [(y0, .inr (7, [.ref eS, .ref eP, .int Mfe, .ref eM, .ref eK, .ref eG, .ref eR, .long Mbo, .long Mro, .int Mus, .ref eN, .ref eW, .ref eV, .int Mne, .ref eA, .long Mca, .long Mga, .long Mgl, .long Mfl, .long Mst, .ref eH, .ref eX, .ref eY, .ref eZ, .int Mhp, .int Mpl])), (eR, .inl (cI, 3, .inl Mrt))]) rfl rfl (by decide) (by decide) (va_runS (As := [.long (Int32.toInt64 p1), .long 0, .long 2]) (rest := []) ⟨hx, hb, hml, hown, hwg⟩ (c_Mo_isIn l dC dI cI cL cZ s.heap.size (Int32.toInt64 p1) 0 2) (va_cwS 3 hwg (g_S kw_357 kw_358 kw_21 kw_359) rfl rfl rfl (by decide +kernel) ⟨Nat.le_of_ble_eq_true rfl, Nat.le_of_ble_eq_true rfl⟩) ⟨c_pre_call, c_pre_mk hPc hDc hK hN _⟩ rfl rfl hl.1 rfl (lv_room (Nat.le_of_ble_eq_true rfl)) d_Mo_rate_6 ⟨Nat.le_of_ble_eq_true rfl, Nat.le_of_ble_eq_true rfl⟩) (fun r6 u H6 locs w6 hz1 hP hD hS => ?_)
  have hP := hP.sub (ws' := [(y0, .inr (7, [.ref eS, .ref eP, .int Mfe, .ref eM, .ref eK, .ref eG, .ref eR, .long Mbo, .long Mro, .int Mus, .ref eN, .ref eW, .ref eV, .int Mne, .ref eA, .long Mca, .long Mga, .long Mgl, .long Mfl, .long Mst, .ref eH, .ref eX, .ref eY, .ref eZ, .int Mhp, .int Mpl])), (eR, .inl (cI, 3, .inl Mrt))]) [0, 1] rfl
  have hD := hD.sub (ws' := [(y0, .inr (7, [.ref eS, .ref eP, .int Mfe, .ref eM, .ref eK, .ref eG, .ref eR, .long Mbo, .long Mro, .int Mus, .ref eN, .ref eW, .ref eV, .int Mne, .ref eA, .long Mca, .long Mga, .long Mgl, .long Mfl, .long Mst, .ref eH, .ref eX, .ref eY, .ref eZ, .int Mhp, .int Mpl])), (eR, .inl (cI, 3, .inl Mrt))]) [0, 1] (by decide) rfl
  refine lv_if_eq (tgt := 24) hx hb d_Mo_rate_9 (by decide) (fun (c9 : r6 = 0) => ?_) (fun (c9 : ¬ (r6 = 0)) => ?_)
  · refine lv_iconst (v := 0) hx hb d_Mo_rate_24 (by decide) ?_
    have hP9 := hP.sub (ws' := [(y0, .inr (7, [.ref eS, .ref eP, .int Mfe, .ref eM, .ref eK, .ref eG, .ref eR, .long Mbo, .long Mro, .int Mus, .ref eN, .ref eW, .ref eV, .int Mne, .ref eA, .long Mca, .long Mga, .long Mgl, .long Mfl, .long Mst, .ref eH, .ref eX, .ref eY, .ref eZ, .int Mhp, .int Mpl])), (eR, .inl (cI, 3, .inl Mrt))]) [0, 1] rfl
    have hD9 := hD.sub (ws' := [(y0, .inr (7, [.ref eS, .ref eP, .int Mfe, .ref eM, .ref eK, .ref eG, .ref eR, .long Mbo, .long Mro, .int Mus, .ref eN, .ref eW, .ref eV, .int Mne, .ref eA, .long Mca, .long Mga, .long Mgl, .long Mfl, .long Mst, .ref eH, .ref eX, .ref eY, .ref eZ, .int Mhp, .int Mpl])), (eR, .inl (cI, 3, .inl Mrt))]) [0, 1] (by decide) rfl
    exact W.zret (ty := .boolean) (v := 0) hx hb hr rfl (fun t ht hW => ⟨⟨0, (Mrt), rfl, by simp only [f_Mo_rate, w6, if_pos c9], by rw [ht]; exact hP9, hD9⟩, hS.F ht⟩) hS.2.2 d_Mo_rate_25
  · refine lv_iload_n hx hb d_Mo_rate_12 rfl (lv_at hl 2 rfl) ?_
    refine lv_i2l hx hb d_Mo_rate_13 rfl ?_
    refine lv_lconst (v := 0) hx hb d_Mo_rate_14 (by decide) ?_
    refine lv_ldc2 hx hb hown (hwg _ kw_366) d_Mo_rate_15 ?_
    have hPc := hP.sub (ws' := []) [] rfl
    have hDc := hD.sub (ws' := []) [] (by decide) rfl
    refine k_calli hP hD hS hA [] [0, 1] (wc := []) (wr := [(y0, .inr (7, [.ref eS, .ref eP, .int Mfe, .ref eM, .ref eK, .ref eG, .ref eR, .long Mbo, .long Mro, .int Mus, .ref eN, .ref eW, .ref eV, .int Mne, .ref eA, .long Mca, .long Mga, .long Mgl, .long Mfl, .long Mst, .ref eH, .ref eX, .ref eY, .ref eZ, .int Mhp, .int Mpl])), (eR, .inl (cI, 3, .inl Mrt))]) rfl rfl (by decide) (by decide) (va_runS (As := [.long (Int32.toInt64 p2), .long 0, .long 1000000]) (rest := []) ⟨hx, hb, hml, hown, hwg⟩ (c_Mo_isIn l dC dI cI cL cZ H6.size (Int32.toInt64 p2) 0 1000000) (va_cwS 3 hwg (g_S kw_357 kw_358 kw_21 kw_359) rfl rfl rfl (by decide +kernel) ⟨Nat.le_of_ble_eq_true rfl, Nat.le_of_ble_eq_true rfl⟩) ⟨c_pre_call, c_pre_mk hPc hDc hK hN _⟩ rfl rfl hl.1 rfl (lv_room (Nat.le_of_ble_eq_true rfl)) d_Mo_rate_18 ⟨Nat.le_of_ble_eq_true rfl, Nat.le_of_ble_eq_true rfl⟩) (fun r18 u H18 locs w18 hz1 hP hD hS => ?_)
    have hP := hP.sub (ws' := [(y0, .inr (7, [.ref eS, .ref eP, .int Mfe, .ref eM, .ref eK, .ref eG, .ref eR, .long Mbo, .long Mro, .int Mus, .ref eN, .ref eW, .ref eV, .int Mne, .ref eA, .long Mca, .long Mga, .long Mgl, .long Mfl, .long Mst, .ref eH, .ref eX, .ref eY, .ref eZ, .int Mhp, .int Mpl])), (eR, .inl (cI, 3, .inl Mrt))]) [0, 1] rfl
    have hD := hD.sub (ws' := [(y0, .inr (7, [.ref eS, .ref eP, .int Mfe, .ref eM, .ref eK, .ref eG, .ref eR, .long Mbo, .long Mro, .int Mus, .ref eN, .ref eW, .ref eV, .int Mne, .ref eA, .long Mca, .long Mga, .long Mgl, .long Mfl, .long Mst, .ref eH, .ref eX, .ref eY, .ref eZ, .int Mhp, .int Mpl])), (eR, .inl (cI, 3, .inl Mrt))]) [0, 1] (by decide) rfl
    refine lv_if_ne (tgt := 26) hx hb d_Mo_rate_21 (by decide) (fun (c21 : ¬ (r18 = 0)) => ?_) (fun (c21 : r18 = 0) => ?_)
    · refine lv_aload_n hx hb d_Mo_rate_26 rfl (lv_at hl 0 rfl) ?_
      refine va_get (D := (dC, dI)) (ci := 7) (v := .ref eR) (C := R_Mo) (T := F_Mo) (N := 26) hx hb hwg iu_Mo hown hK hP 0 rfl rfl 6 (by decide) (hwg _ kw_328) (fun _ h9 => h9) rfl d_Mo_rate_27 ?_
      refine lv_iload_n hx hb d_Mo_rate_30 rfl (lv_at hl 1 rfl) ?_
      refine lv_iload_n hx hb d_Mo_rate_31 rfl (lv_at hl 2 rfl) ?_
      refine va_iast hx hb hK hP hD hS 1 0 rfl rfl (in_is2 w6 c9) d_Mo_rate_32 (fun H32 locs hP hD hS => ?_)
      have hP : va_P (dC, dI) vwCl [(y0, .inr (7, [.ref eS, .ref eP, .int Mfe, .ref eM, .ref eK, .ref eG, .ref eR, .long Mbo, .long Mro, .int Mus, .ref eN, .ref eW, .ref eV, .int Mne, .ref eA, .long Mca, .long Mga, .long Mgl, .long Mfl, .long Mst, .ref eH, .ref eX, .ref eY, .ref eZ, .int Mhp, .int Mpl])), (eR, .inl (cI, 3, .inl (upd Mrt (Int32.toNatClampNeg p1) p2)))] H32 := hP
      have hD : va_D A [(y0, .inr (7, [.ref eS, .ref eP, .int Mfe, .ref eM, .ref eK, .ref eG, .ref eR, .long Mbo, .long Mro, .int Mus, .ref eN, .ref eW, .ref eV, .int Mne, .ref eA, .long Mca, .long Mga, .long Mgl, .long Mfl, .long Mst, .ref eH, .ref eX, .ref eY, .ref eZ, .int Mhp, .int Mpl])), (eR, .inl (cI, 3, .inl (upd Mrt (Int32.toNatClampNeg p1) p2)))] := hD
      refine lv_iconst (v := 1) hx hb d_Mo_rate_33 (by decide) ?_
      have hP9 := hP.sub (ws' := [(y0, .inr (7, [.ref eS, .ref eP, .int Mfe, .ref eM, .ref eK, .ref eG, .ref eR, .long Mbo, .long Mro, .int Mus, .ref eN, .ref eW, .ref eV, .int Mne, .ref eA, .long Mca, .long Mga, .long Mgl, .long Mfl, .long Mst, .ref eH, .ref eX, .ref eY, .ref eZ, .int Mhp, .int Mpl])), (eR, .inl (cI, 3, .inl (upd Mrt (Int32.toNatClampNeg p1) p2)))]) [0, 1] rfl
      have hD9 := hD.sub (ws' := [(y0, .inr (7, [.ref eS, .ref eP, .int Mfe, .ref eM, .ref eK, .ref eG, .ref eR, .long Mbo, .long Mro, .int Mus, .ref eN, .ref eW, .ref eV, .int Mne, .ref eA, .long Mca, .long Mga, .long Mgl, .long Mfl, .long Mst, .ref eH, .ref eX, .ref eY, .ref eZ, .int Mhp, .int Mpl])), (eR, .inl (cI, 3, .inl (upd Mrt (Int32.toNatClampNeg p1) p2)))]) [0, 1] (by decide) rfl
      exact W.zret (ty := .boolean) (v := 1) hx hb hr rfl (fun t ht hW => ⟨⟨1, (upd Mrt (Int32.toNatClampNeg p1) p2), rfl, by simp only [f_Mo_rate, w6, if_neg c9, w18, if_neg c21], by rw [ht]; exact hP9, hD9⟩, hS.F ht⟩) hS.2.2 d_Mo_rate_34
    · refine lv_iconst (v := 0) hx hb d_Mo_rate_24 (by decide) ?_
      have hP9 := hP.sub (ws' := [(y0, .inr (7, [.ref eS, .ref eP, .int Mfe, .ref eM, .ref eK, .ref eG, .ref eR, .long Mbo, .long Mro, .int Mus, .ref eN, .ref eW, .ref eV, .int Mne, .ref eA, .long Mca, .long Mga, .long Mgl, .long Mfl, .long Mst, .ref eH, .ref eX, .ref eY, .ref eZ, .int Mhp, .int Mpl])), (eR, .inl (cI, 3, .inl Mrt))]) [0, 1] rfl
      have hD9 := hD.sub (ws' := [(y0, .inr (7, [.ref eS, .ref eP, .int Mfe, .ref eM, .ref eK, .ref eG, .ref eR, .long Mbo, .long Mro, .int Mus, .ref eN, .ref eW, .ref eV, .int Mne, .ref eA, .long Mca, .long Mga, .long Mgl, .long Mfl, .long Mst, .ref eH, .ref eX, .ref eY, .ref eZ, .int Mhp, .int Mpl])), (eR, .inl (cI, 3, .inl Mrt))]) [0, 1] (by decide) rfl
      exact W.zret (ty := .boolean) (v := 0) hx hb hr rfl (fun t ht hW => ⟨⟨0, (Mrt), rfl, by simp only [f_Mo_rate, w6, if_neg c9, w18, if_pos c21], by rw [ht]; exact hP9, hD9⟩, hS.F ht⟩) hS.2.2 d_Mo_rate_25
def f_Mo_bound (Mbo : Int64) (p1 : Int32) : Int32 × Int64 := let r7 := f_Mo_isIn (Int32.toInt64 p1) 1 1000000000; if r7 = 0 then (let r31 := f_Mo_isIn (Int32.toInt64 p1) 1 1000000000; (r31, Mbo)) else (let r31 := f_Mo_isIn (Int32.toInt64 p1) 1 1000000000; (r31, Int32.toInt64 p1))
abbrev rm_Mo_bound : Room := { frames := 1, cells := 0, slots := 0, locals := 25 }
set_option maxHeartbeats 4000000 in
set_option maxRecDepth 100000 in
theorem c_Mo_bound (l : Launch) (dC : Nat → ClassId) (dI : Nat → Nat → Nat) (cI cL cZ : ClassId) (y0 eS eP eM eK eG eR eN eW eV eA eH eX eY eZ : Nat) (sz : Nat) (Mfe : Int32) (Mbo : Int64) (Mro : Int64) (Mus : Int32) (Mne : Int32) (Mca : Int64) (Mga : Int64) (Mgl : Int64) (Mfl : Int64) (Mst : Int64) (Mhp : Int32) (Mpl : Int32) (p1 : Int32) : Met l y_Mo_bound w_Mo_bound rm_Mo_bound (va_Pc [.ref y0, .int p1] (c_pre dC dI cI cL cZ [(y0, .inr (7, [.ref eS, .ref eP, .int Mfe, .ref eM, .ref eK, .ref eG, .ref eR, .long Mbo, .long Mro, .int Mus, .ref eN, .ref eW, .ref eV, .int Mne, .ref eA, .long Mca, .long Mga, .long Mgl, .long Mfl, .long Mst, .ref eH, .ref eX, .ref eY, .ref eZ, .int Mhp, .int Mpl]))] sz)) (va_Qi (fun (r : Int32) (u : Int64) => f_Mo_bound Mbo p1 = (r, u)) (c_post dC dI (fun (u : Int64) => [(y0, .inr (7, [.ref eS, .ref eP, .int Mfe, .ref eM, .ref eK, .ref eG, .ref eR, .long u, .long Mro, .int Mus, .ref eN, .ref eW, .ref eV, .int Mne, .ref eA, .long Mca, .long Mga, .long Mgl, .long Mfl, .long Mst, .ref eH, .ref eX, .ref eY, .ref eZ, .int Mhp, .int Mpl]))]) (va_A [(y0, .inr (7, [.ref eS, .ref eP, .int Mfe, .ref eM, .ref eK, .ref eG, .ref eR, .long Mbo, .long Mro, .int Mus, .ref eN, .ref eW, .ref eV, .int Mne, .ref eA, .long Mca, .long Mga, .long Mgl, .long Mfl, .long Mst, .ref eH, .ref eX, .ref eY, .ref eZ, .int Mhp, .int Mpl]))] sz)) (va_A [(y0, .inr (7, [.ref eS, .ref eP, .int Mfe, .ref eM, .ref eK, .ref eG, .ref eR, .long Mbo, .long Mro, .int Mus, .ref eN, .ref eW, .ref eV, .int Mne, .ref eA, .long Mca, .long Mga, .long Mgl, .long Mfl, .long Mst, .ref eH, .ref eX, .ref eY, .ref eZ, .int Mhp, .int Mpl]))] sz)) 0 0 (va_A [(y0, .inr (7, [.ref eS, .ref eP, .int Mfe, .ref eM, .ref eK, .ref eG, .ref eR, .long Mbo, .long Mro, .int Mus, .ref eN, .ref eW, .ref eV, .int Mne, .ref eA, .long Mca, .long Mga, .long Mgl, .long Mfl, .long Mst, .ref eH, .ref eX, .ref eY, .ref eZ, .int Mhp, .int Mpl]))] sz) := by
  refine Met.ofW (cc := b_Mo_bound) (maxL := 2) (ret := (some .boolean)) (by decide) rfl ?_
  intro p e s m args below meth c s₁ B hml hv
  obtain ⟨rfl, hsz, hP, hK, hN, hD0⟩ := hv
  have hx := B.exec
  have hb := B.bytes
  have hr := B.returns
  have hts := atoms_spec (ws := w_Mo_bound) B.pre
  have hown : s.vm.findClass R_Mo = some m.cls := findClass_of_methodNamed B.named
  have hlocks := B.notSynchronized
  have hwg : ∀ w ∈ wg, w.before ([.ref y0, .int p1] : List Value).toArray s = true := fun w h => hts w (List.mem_cons_of_mem _ h)
  subst hsz
  have hD := hD0.self (sz := s.heap.size)
  generalize hAe : va_A [(y0, .inr (7, [.ref eS, .ref eP, .int Mfe, .ref eM, .ref eK, .ref eG, .ref eR, .long Mbo, .long Mro, .int Mus, .ref eN, .ref eW, .ref eV, .int Mne, .ref eA, .long Mca, .long Mga, .long Mgl, .long Mfl, .long Mst, .ref eH, .ref eX, .ref eY, .ref eZ, .int Mhp, .int Mpl]))] s.heap.size = A at hD ⊢
  have hA : ∀ q : Nat, s.heap.size ≤ q → A q := fun q h => by rw [← hAe]; exact Or.inr h
  have hS : va_S A s.heap s.heap [] := va_S.rf
  have hP : va_P (dC, dI) vwCl [(y0, .inr (7, [.ref eS, .ref eP, .int Mfe, .ref eM, .ref eK, .ref eG, .ref eR, .long Mbo, .long Mro, .int Mus, .ref eN, .ref eW, .ref eV, .int Mne, .ref eA, .long Mca, .long Mga, .long Mgl, .long Mfl, .long Mst, .ref eH, .ref eX, .ref eY, .ref eZ, .int Mhp, .int Mpl]))] s.heap := hP
  have hl := lv_entry ([.ref y0, .int p1]) (n := 2) (Nat.le_of_ble_eq_true rfl)
  rw [lg_entry_eq]
  generalize (lg_sl ([.ref y0, .int p1]) ++ List.replicate (2 - (lg_sl ([.ref y0, .int p1])).length) Slot.unset).toArray = ls at hl ⊢
  have hl : lv_has ls 2 [(0, .ref y0), (1, .int p1)] := hl
  refine lv_aload_n hx hb d_Mo_bound_0 rfl (lv_at hl 0 rfl) ?_
  refine lv_iload_n hx hb d_Mo_bound_1 rfl (lv_at hl 1 rfl) ?_
  refine lv_i2l hx hb d_Mo_bound_2 rfl ?_
  refine lv_lconst (v := 1) hx hb d_Mo_bound_3 (by decide) ?_
  refine lv_ldc2 hx hb hown (hwg _ kw_321) d_Mo_bound_4 ?_
  have hPc := hP.sub (ws' := []) [] rfl
  have hDc := hD.sub (ws' := []) [] (by decide) rfl
  refine k_calli hP hD hS hA [] [0] (wc := []) (wr := [(y0, .inr (7, [.ref eS, .ref eP, .int Mfe, .ref eM, .ref eK, .ref eG, .ref eR, .long Mbo, .long Mro, .int Mus, .ref eN, .ref eW, .ref eV, .int Mne, .ref eA, .long Mca, .long Mga, .long Mgl, .long Mfl, .long Mst, .ref eH, .ref eX, .ref eY, .ref eZ, .int Mhp, .int Mpl]))]) rfl rfl (by decide) (by decide) (va_runS (As := [.long (Int32.toInt64 p1), .long 1, .long 1000000000]) (rest := [.ref y0]) ⟨hx, hb, hml, hown, hwg⟩ (c_Mo_isIn l dC dI cI cL cZ s.heap.size (Int32.toInt64 p1) 1 1000000000) (va_cwS 3 hwg (g_S kw_357 kw_358 kw_21 kw_359) rfl rfl rfl (by decide +kernel) ⟨Nat.le_of_ble_eq_true rfl, Nat.le_of_ble_eq_true rfl⟩) ⟨c_pre_call, c_pre_mk hPc hDc hK hN _⟩ rfl rfl hl.1 rfl (lv_room (Nat.le_of_ble_eq_true rfl)) d_Mo_bound_7 ⟨Nat.le_of_ble_eq_true rfl, Nat.le_of_ble_eq_true rfl⟩) (fun r7 u H7 locs w7 hz1 hP hD hS => ?_)
  have hP := hP.sub (ws' := [(y0, .inr (7, [.ref eS, .ref eP, .int Mfe, .ref eM, .ref eK, .ref eG, .ref eR, .long Mbo, .long Mro, .int Mus, .ref eN, .ref eW, .ref eV, .int Mne, .ref eA, .long Mca, .long Mga, .long Mgl, .long Mfl, .long Mst, .ref eH, .ref eX, .ref eY, .ref eZ, .int Mhp, .int Mpl]))]) [0] rfl
  have hD := hD.sub (ws' := [(y0, .inr (7, [.ref eS, .ref eP, .int Mfe, .ref eM, .ref eK, .ref eG, .ref eR, .long Mbo, .long Mro, .int Mus, .ref eN, .ref eW, .ref eV, .int Mne, .ref eA, .long Mca, .long Mga, .long Mgl, .long Mfl, .long Mst, .ref eH, .ref eX, .ref eY, .ref eZ, .int Mhp, .int Mpl]))]) [0] (by decide) rfl
  refine lv_if_eq (tgt := 18) hx hb d_Mo_bound_10 (by decide) (fun (c10 : r7 = 0) => ?_) (fun (c10 : ¬ (r7 = 0)) => ?_)
  · refine lv_aload_n hx hb d_Mo_bound_18 rfl (lv_at hl 0 rfl) ?_
    refine va_get (D := (dC, dI)) (ci := 7) (v := .long Mbo) (C := R_Mo) (T := F_Mo) (N := 26) hx hb hwg iu_Mo hown hK hP 0 rfl rfl 7 (by decide) (hwg _ kw_329) (fun _ h9 => h9) rfl d_Mo_bound_19 ?_
    refine va_put (D := (dC, dI)) (ci := 7) (v := .long Mbo) (ty := .long) (C := R_Mo) (T := F_Mo) (N := 26) hx hb hwg iu_Mo t_Mo t_Mo_ok n_Mo hown hK hP hD hS 0 rfl rfl 7 (by decide) (hwg _ kw_329) (fun _ h9 => h9) rfl (by decide +kernel) rfl rfl (Nat.le_of_ble_eq_true rfl) d_Mo_bound_22 (fun H22 locs hP hD hS => ?_)
    have hP : va_P (dC, dI) vwCl [(y0, .inr (7, [.ref eS, .ref eP, .int Mfe, .ref eM, .ref eK, .ref eG, .ref eR, .long Mbo, .long Mro, .int Mus, .ref eN, .ref eW, .ref eV, .int Mne, .ref eA, .long Mca, .long Mga, .long Mgl, .long Mfl, .long Mst, .ref eH, .ref eX, .ref eY, .ref eZ, .int Mhp, .int Mpl]))] H22 := hP
    have hD : va_D A [(y0, .inr (7, [.ref eS, .ref eP, .int Mfe, .ref eM, .ref eK, .ref eG, .ref eR, .long Mbo, .long Mro, .int Mus, .ref eN, .ref eW, .ref eV, .int Mne, .ref eA, .long Mca, .long Mga, .long Mgl, .long Mfl, .long Mst, .ref eH, .ref eX, .ref eY, .ref eZ, .int Mhp, .int Mpl]))] := hD
    refine lv_iload_n hx hb d_Mo_bound_25 rfl (lv_at hl 1 rfl) ?_
    refine lv_i2l hx hb d_Mo_bound_26 rfl ?_
    refine lv_lconst (v := 1) hx hb d_Mo_bound_27 (by decide) ?_
    refine lv_ldc2 hx hb hown (hwg _ kw_321) d_Mo_bound_28 ?_
    have hPc := hP.sub (ws' := []) [] rfl
    have hDc := hD.sub (ws' := []) [] (by decide) rfl
    refine k_calli hP hD hS hA [] [0] (wc := []) (wr := [(y0, .inr (7, [.ref eS, .ref eP, .int Mfe, .ref eM, .ref eK, .ref eG, .ref eR, .long Mbo, .long Mro, .int Mus, .ref eN, .ref eW, .ref eV, .int Mne, .ref eA, .long Mca, .long Mga, .long Mgl, .long Mfl, .long Mst, .ref eH, .ref eX, .ref eY, .ref eZ, .int Mhp, .int Mpl]))]) rfl rfl (by decide) (by decide) (va_runS (As := [.long (Int32.toInt64 p1), .long 1, .long 1000000000]) (rest := []) ⟨hx, hb, hml, hown, hwg⟩ (c_Mo_isIn l dC dI cI cL cZ H22.size (Int32.toInt64 p1) 1 1000000000) (va_cwS 3 hwg (g_S kw_357 kw_358 kw_21 kw_359) rfl rfl rfl (by decide +kernel) ⟨Nat.le_of_ble_eq_true rfl, Nat.le_of_ble_eq_true rfl⟩) ⟨c_pre_call, c_pre_mk hPc hDc hK hN _⟩ rfl rfl hl.1 rfl (lv_room (Nat.le_of_ble_eq_true rfl)) d_Mo_bound_31 ⟨Nat.le_of_ble_eq_true rfl, Nat.le_of_ble_eq_true rfl⟩) (fun r31 u H31 locs w31 hz1 hP hD hS => ?_)
    have hP := hP.sub (ws' := [(y0, .inr (7, [.ref eS, .ref eP, .int Mfe, .ref eM, .ref eK, .ref eG, .ref eR, .long Mbo, .long Mro, .int Mus, .ref eN, .ref eW, .ref eV, .int Mne, .ref eA, .long Mca, .long Mga, .long Mgl, .long Mfl, .long Mst, .ref eH, .ref eX, .ref eY, .ref eZ, .int Mhp, .int Mpl]))]) [0] rfl
    have hD := hD.sub (ws' := [(y0, .inr (7, [.ref eS, .ref eP, .int Mfe, .ref eM, .ref eK, .ref eG, .ref eR, .long Mbo, .long Mro, .int Mus, .ref eN, .ref eW, .ref eV, .int Mne, .ref eA, .long Mca, .long Mga, .long Mgl, .long Mfl, .long Mst, .ref eH, .ref eX, .ref eY, .ref eZ, .int Mhp, .int Mpl]))]) [0] (by decide) rfl
    have hP9 := hP.sub (ws' := [(y0, .inr (7, [.ref eS, .ref eP, .int Mfe, .ref eM, .ref eK, .ref eG, .ref eR, .long Mbo, .long Mro, .int Mus, .ref eN, .ref eW, .ref eV, .int Mne, .ref eA, .long Mca, .long Mga, .long Mgl, .long Mfl, .long Mst, .ref eH, .ref eX, .ref eY, .ref eZ, .int Mhp, .int Mpl]))]) [0] rfl
    have hD9 := hD.sub (ws' := [(y0, .inr (7, [.ref eS, .ref eP, .int Mfe, .ref eM, .ref eK, .ref eG, .ref eR, .long Mbo, .long Mro, .int Mus, .ref eN, .ref eW, .ref eV, .int Mne, .ref eA, .long Mca, .long Mga, .long Mgl, .long Mfl, .long Mst, .ref eH, .ref eX, .ref eY, .ref eZ, .int Mhp, .int Mpl]))]) [0] (by decide) rfl
    exact W.zret (ty := .boolean) (v := r31) hx hb hr (f_isIn_nar w31) (fun t ht hW => ⟨⟨r31, (Mbo), rfl, by have e : r7 = r31 := w7.symm.trans w31; subst e; first | (simp only [f_Mo_bound, w7, if_pos c10]; done) | (simp only [f_Mo_bound, w7, if_neg c10]; done), by rw [ht]; exact hP9, hD9⟩, hS.F ht⟩) hS.2.2 d_Mo_bound_34
  · refine lv_iload_n hx hb d_Mo_bound_13 rfl (lv_at hl 1 rfl) ?_
    refine lv_i2l hx hb d_Mo_bound_14 rfl ?_
    refine lv_goto (tgt := 22) hx hb d_Mo_bound_15 (by decide) ?_
    refine va_put (D := (dC, dI)) (ci := 7) (v := .long (Int32.toInt64 p1)) (ty := .long) (C := R_Mo) (T := F_Mo) (N := 26) hx hb hwg iu_Mo t_Mo t_Mo_ok n_Mo hown hK hP hD hS 0 rfl rfl 7 (by decide) (hwg _ kw_329) (fun _ h9 => h9) rfl (by decide +kernel) rfl rfl (Nat.le_of_ble_eq_true rfl) d_Mo_bound_22 (fun H22 locs hP hD hS => ?_)
    have hP : va_P (dC, dI) vwCl [(y0, .inr (7, [.ref eS, .ref eP, .int Mfe, .ref eM, .ref eK, .ref eG, .ref eR, .long (Int32.toInt64 p1), .long Mro, .int Mus, .ref eN, .ref eW, .ref eV, .int Mne, .ref eA, .long Mca, .long Mga, .long Mgl, .long Mfl, .long Mst, .ref eH, .ref eX, .ref eY, .ref eZ, .int Mhp, .int Mpl]))] H22 := hP
    have hD : va_D A [(y0, .inr (7, [.ref eS, .ref eP, .int Mfe, .ref eM, .ref eK, .ref eG, .ref eR, .long (Int32.toInt64 p1), .long Mro, .int Mus, .ref eN, .ref eW, .ref eV, .int Mne, .ref eA, .long Mca, .long Mga, .long Mgl, .long Mfl, .long Mst, .ref eH, .ref eX, .ref eY, .ref eZ, .int Mhp, .int Mpl]))] := hD
    refine lv_iload_n hx hb d_Mo_bound_25 rfl (lv_at hl 1 rfl) ?_
    refine lv_i2l hx hb d_Mo_bound_26 rfl ?_
    refine lv_lconst (v := 1) hx hb d_Mo_bound_27 (by decide) ?_
    refine lv_ldc2 hx hb hown (hwg _ kw_321) d_Mo_bound_28 ?_
    have hPc := hP.sub (ws' := []) [] rfl
    have hDc := hD.sub (ws' := []) [] (by decide) rfl
    refine k_calli hP hD hS hA [] [0] (wc := []) (wr := [(y0, .inr (7, [.ref eS, .ref eP, .int Mfe, .ref eM, .ref eK, .ref eG, .ref eR, .long (Int32.toInt64 p1), .long Mro, .int Mus, .ref eN, .ref eW, .ref eV, .int Mne, .ref eA, .long Mca, .long Mga, .long Mgl, .long Mfl, .long Mst, .ref eH, .ref eX, .ref eY, .ref eZ, .int Mhp, .int Mpl]))]) rfl rfl (by decide) (by decide) (va_runS (As := [.long (Int32.toInt64 p1), .long 1, .long 1000000000]) (rest := []) ⟨hx, hb, hml, hown, hwg⟩ (c_Mo_isIn l dC dI cI cL cZ H22.size (Int32.toInt64 p1) 1 1000000000) (va_cwS 3 hwg (g_S kw_357 kw_358 kw_21 kw_359) rfl rfl rfl (by decide +kernel) ⟨Nat.le_of_ble_eq_true rfl, Nat.le_of_ble_eq_true rfl⟩) ⟨c_pre_call, c_pre_mk hPc hDc hK hN _⟩ rfl rfl hl.1 rfl (lv_room (Nat.le_of_ble_eq_true rfl)) d_Mo_bound_31 ⟨Nat.le_of_ble_eq_true rfl, Nat.le_of_ble_eq_true rfl⟩) (fun r31 u H31 locs w31 hz1 hP hD hS => ?_)
    have hP := hP.sub (ws' := [(y0, .inr (7, [.ref eS, .ref eP, .int Mfe, .ref eM, .ref eK, .ref eG, .ref eR, .long (Int32.toInt64 p1), .long Mro, .int Mus, .ref eN, .ref eW, .ref eV, .int Mne, .ref eA, .long Mca, .long Mga, .long Mgl, .long Mfl, .long Mst, .ref eH, .ref eX, .ref eY, .ref eZ, .int Mhp, .int Mpl]))]) [0] rfl
    have hD := hD.sub (ws' := [(y0, .inr (7, [.ref eS, .ref eP, .int Mfe, .ref eM, .ref eK, .ref eG, .ref eR, .long (Int32.toInt64 p1), .long Mro, .int Mus, .ref eN, .ref eW, .ref eV, .int Mne, .ref eA, .long Mca, .long Mga, .long Mgl, .long Mfl, .long Mst, .ref eH, .ref eX, .ref eY, .ref eZ, .int Mhp, .int Mpl]))]) [0] (by decide) rfl
    have hP9 := hP.sub (ws' := [(y0, .inr (7, [.ref eS, .ref eP, .int Mfe, .ref eM, .ref eK, .ref eG, .ref eR, .long (Int32.toInt64 p1), .long Mro, .int Mus, .ref eN, .ref eW, .ref eV, .int Mne, .ref eA, .long Mca, .long Mga, .long Mgl, .long Mfl, .long Mst, .ref eH, .ref eX, .ref eY, .ref eZ, .int Mhp, .int Mpl]))]) [0] rfl
    have hD9 := hD.sub (ws' := [(y0, .inr (7, [.ref eS, .ref eP, .int Mfe, .ref eM, .ref eK, .ref eG, .ref eR, .long (Int32.toInt64 p1), .long Mro, .int Mus, .ref eN, .ref eW, .ref eV, .int Mne, .ref eA, .long Mca, .long Mga, .long Mgl, .long Mfl, .long Mst, .ref eH, .ref eX, .ref eY, .ref eZ, .int Mhp, .int Mpl]))]) [0] (by decide) rfl
    exact W.zret (ty := .boolean) (v := r31) hx hb hr (f_isIn_nar w31) (fun t ht hW => ⟨⟨r31, (Int32.toInt64 p1), rfl, by have e : r7 = r31 := w7.symm.trans w31; subst e; first | (simp only [f_Mo_bound, w7, if_pos c10]; done) | (simp only [f_Mo_bound, w7, if_neg c10]; done), by rw [ht]; exact hP9, hD9⟩, hS.F ht⟩) hS.2.2 d_Mo_bound_34
def f_Mo_room (Mro : Int64) (p1 : Int32) : Int32 × Int64 := let r7 := f_Mo_isIn (Int32.toInt64 p1) 0 1000000000; if r7 = 0 then (let r31 := f_Mo_isIn (Int32.toInt64 p1) 0 1000000000; (r31, Mro)) else (let r31 := f_Mo_isIn (Int32.toInt64 p1) 0 1000000000; (r31, Int32.toInt64 p1))
abbrev rm_Mo_room : Room := { frames := 1, cells := 0, slots := 0, locals := 25 }
set_option maxHeartbeats 4000000 in
set_option maxRecDepth 100000 in
theorem c_Mo_room (l : Launch) (dC : Nat → ClassId) (dI : Nat → Nat → Nat) (cI cL cZ : ClassId) (y0 eS eP eM eK eG eR eN eW eV eA eH eX eY eZ : Nat) (sz : Nat) (Mfe : Int32) (Mbo : Int64) (Mro : Int64) (Mus : Int32) (Mne : Int32) (Mca : Int64) (Mga : Int64) (Mgl : Int64) (Mfl : Int64) (Mst : Int64) (Mhp : Int32) (Mpl : Int32) (p1 : Int32) : Met l y_Mo_room w_Mo_room rm_Mo_room (va_Pc [.ref y0, .int p1] (c_pre dC dI cI cL cZ [(y0, .inr (7, [.ref eS, .ref eP, .int Mfe, .ref eM, .ref eK, .ref eG, .ref eR, .long Mbo, .long Mro, .int Mus, .ref eN, .ref eW, .ref eV, .int Mne, .ref eA, .long Mca, .long Mga, .long Mgl, .long Mfl, .long Mst, .ref eH, .ref eX, .ref eY, .ref eZ, .int Mhp, .int Mpl]))] sz)) (va_Qi (fun (r : Int32) (u : Int64) => f_Mo_room Mro p1 = (r, u)) (c_post dC dI (fun (u : Int64) => [(y0, .inr (7, [.ref eS, .ref eP, .int Mfe, .ref eM, .ref eK, .ref eG, .ref eR, .long Mbo, .long u, .int Mus, .ref eN, .ref eW, .ref eV, .int Mne, .ref eA, .long Mca, .long Mga, .long Mgl, .long Mfl, .long Mst, .ref eH, .ref eX, .ref eY, .ref eZ, .int Mhp, .int Mpl]))]) (va_A [(y0, .inr (7, [.ref eS, .ref eP, .int Mfe, .ref eM, .ref eK, .ref eG, .ref eR, .long Mbo, .long Mro, .int Mus, .ref eN, .ref eW, .ref eV, .int Mne, .ref eA, .long Mca, .long Mga, .long Mgl, .long Mfl, .long Mst, .ref eH, .ref eX, .ref eY, .ref eZ, .int Mhp, .int Mpl]))] sz)) (va_A [(y0, .inr (7, [.ref eS, .ref eP, .int Mfe, .ref eM, .ref eK, .ref eG, .ref eR, .long Mbo, .long Mro, .int Mus, .ref eN, .ref eW, .ref eV, .int Mne, .ref eA, .long Mca, .long Mga, .long Mgl, .long Mfl, .long Mst, .ref eH, .ref eX, .ref eY, .ref eZ, .int Mhp, .int Mpl]))] sz)) 0 0 (va_A [(y0, .inr (7, [.ref eS, .ref eP, .int Mfe, .ref eM, .ref eK, .ref eG, .ref eR, .long Mbo, .long Mro, .int Mus, .ref eN, .ref eW, .ref eV, .int Mne, .ref eA, .long Mca, .long Mga, .long Mgl, .long Mfl, .long Mst, .ref eH, .ref eX, .ref eY, .ref eZ, .int Mhp, .int Mpl]))] sz) := by
  refine Met.ofW (cc := b_Mo_room) (maxL := 2) (ret := (some .boolean)) (by decide) rfl ?_
  intro p e s m args below meth c s₁ B hml hv
  obtain ⟨rfl, hsz, hP, hK, hN, hD0⟩ := hv
  have hx := B.exec
  have hb := B.bytes
  have hr := B.returns
  have hts := atoms_spec (ws := w_Mo_room) B.pre
  have hown : s.vm.findClass R_Mo = some m.cls := findClass_of_methodNamed B.named
  have hlocks := B.notSynchronized
  have hwg : ∀ w ∈ wg, w.before ([.ref y0, .int p1] : List Value).toArray s = true := fun w h => hts w (List.mem_cons_of_mem _ h)
  subst hsz
  have hD := hD0.self (sz := s.heap.size)
  generalize hAe : va_A [(y0, .inr (7, [.ref eS, .ref eP, .int Mfe, .ref eM, .ref eK, .ref eG, .ref eR, .long Mbo, .long Mro, .int Mus, .ref eN, .ref eW, .ref eV, .int Mne, .ref eA, .long Mca, .long Mga, .long Mgl, .long Mfl, .long Mst, .ref eH, .ref eX, .ref eY, .ref eZ, .int Mhp, .int Mpl]))] s.heap.size = A at hD ⊢
  have hA : ∀ q : Nat, s.heap.size ≤ q → A q := fun q h => by rw [← hAe]; exact Or.inr h
  have hS : va_S A s.heap s.heap [] := va_S.rf
  have hP : va_P (dC, dI) vwCl [(y0, .inr (7, [.ref eS, .ref eP, .int Mfe, .ref eM, .ref eK, .ref eG, .ref eR, .long Mbo, .long Mro, .int Mus, .ref eN, .ref eW, .ref eV, .int Mne, .ref eA, .long Mca, .long Mga, .long Mgl, .long Mfl, .long Mst, .ref eH, .ref eX, .ref eY, .ref eZ, .int Mhp, .int Mpl]))] s.heap := hP
  have hl := lv_entry ([.ref y0, .int p1]) (n := 2) (Nat.le_of_ble_eq_true rfl)
  rw [lg_entry_eq]
  generalize (lg_sl ([.ref y0, .int p1]) ++ List.replicate (2 - (lg_sl ([.ref y0, .int p1])).length) Slot.unset).toArray = ls at hl ⊢
  have hl : lv_has ls 2 [(0, .ref y0), (1, .int p1)] := hl
  refine lv_aload_n hx hb d_Mo_room_0 rfl (lv_at hl 0 rfl) ?_
  refine lv_iload_n hx hb d_Mo_room_1 rfl (lv_at hl 1 rfl) ?_
  refine lv_i2l hx hb d_Mo_room_2 rfl ?_
  refine lv_lconst (v := 0) hx hb d_Mo_room_3 (by decide) ?_
  refine lv_ldc2 hx hb hown (hwg _ kw_321) d_Mo_room_4 ?_
  have hPc := hP.sub (ws' := []) [] rfl
  have hDc := hD.sub (ws' := []) [] (by decide) rfl
  refine k_calli hP hD hS hA [] [0] (wc := []) (wr := [(y0, .inr (7, [.ref eS, .ref eP, .int Mfe, .ref eM, .ref eK, .ref eG, .ref eR, .long Mbo, .long Mro, .int Mus, .ref eN, .ref eW, .ref eV, .int Mne, .ref eA, .long Mca, .long Mga, .long Mgl, .long Mfl, .long Mst, .ref eH, .ref eX, .ref eY, .ref eZ, .int Mhp, .int Mpl]))]) rfl rfl (by decide) (by decide) (va_runS (As := [.long (Int32.toInt64 p1), .long 0, .long 1000000000]) (rest := [.ref y0]) ⟨hx, hb, hml, hown, hwg⟩ (c_Mo_isIn l dC dI cI cL cZ s.heap.size (Int32.toInt64 p1) 0 1000000000) (va_cwS 3 hwg (g_S kw_357 kw_358 kw_21 kw_359) rfl rfl rfl (by decide +kernel) ⟨Nat.le_of_ble_eq_true rfl, Nat.le_of_ble_eq_true rfl⟩) ⟨c_pre_call, c_pre_mk hPc hDc hK hN _⟩ rfl rfl hl.1 rfl (lv_room (Nat.le_of_ble_eq_true rfl)) d_Mo_room_7 ⟨Nat.le_of_ble_eq_true rfl, Nat.le_of_ble_eq_true rfl⟩) (fun r7 u H7 locs w7 hz1 hP hD hS => ?_)
  have hP := hP.sub (ws' := [(y0, .inr (7, [.ref eS, .ref eP, .int Mfe, .ref eM, .ref eK, .ref eG, .ref eR, .long Mbo, .long Mro, .int Mus, .ref eN, .ref eW, .ref eV, .int Mne, .ref eA, .long Mca, .long Mga, .long Mgl, .long Mfl, .long Mst, .ref eH, .ref eX, .ref eY, .ref eZ, .int Mhp, .int Mpl]))]) [0] rfl
  have hD := hD.sub (ws' := [(y0, .inr (7, [.ref eS, .ref eP, .int Mfe, .ref eM, .ref eK, .ref eG, .ref eR, .long Mbo, .long Mro, .int Mus, .ref eN, .ref eW, .ref eV, .int Mne, .ref eA, .long Mca, .long Mga, .long Mgl, .long Mfl, .long Mst, .ref eH, .ref eX, .ref eY, .ref eZ, .int Mhp, .int Mpl]))]) [0] (by decide) rfl
  refine lv_if_eq (tgt := 18) hx hb d_Mo_room_10 (by decide) (fun (c10 : r7 = 0) => ?_) (fun (c10 : ¬ (r7 = 0)) => ?_)
  · refine lv_aload_n hx hb d_Mo_room_18 rfl (lv_at hl 0 rfl) ?_
    refine va_get (D := (dC, dI)) (ci := 7) (v := .long Mro) (C := R_Mo) (T := F_Mo) (N := 26) hx hb hwg iu_Mo hown hK hP 0 rfl rfl 8 (by decide) (hwg _ kw_330) (fun _ h9 => h9) rfl d_Mo_room_19 ?_
    refine va_put (D := (dC, dI)) (ci := 7) (v := .long Mro) (ty := .long) (C := R_Mo) (T := F_Mo) (N := 26) hx hb hwg iu_Mo t_Mo t_Mo_ok n_Mo hown hK hP hD hS 0 rfl rfl 8 (by decide) (hwg _ kw_330) (fun _ h9 => h9) rfl (by decide +kernel) rfl rfl (Nat.le_of_ble_eq_true rfl) d_Mo_room_22 (fun H22 locs hP hD hS => ?_)
    have hP : va_P (dC, dI) vwCl [(y0, .inr (7, [.ref eS, .ref eP, .int Mfe, .ref eM, .ref eK, .ref eG, .ref eR, .long Mbo, .long Mro, .int Mus, .ref eN, .ref eW, .ref eV, .int Mne, .ref eA, .long Mca, .long Mga, .long Mgl, .long Mfl, .long Mst, .ref eH, .ref eX, .ref eY, .ref eZ, .int Mhp, .int Mpl]))] H22 := hP
    have hD : va_D A [(y0, .inr (7, [.ref eS, .ref eP, .int Mfe, .ref eM, .ref eK, .ref eG, .ref eR, .long Mbo, .long Mro, .int Mus, .ref eN, .ref eW, .ref eV, .int Mne, .ref eA, .long Mca, .long Mga, .long Mgl, .long Mfl, .long Mst, .ref eH, .ref eX, .ref eY, .ref eZ, .int Mhp, .int Mpl]))] := hD
    refine lv_iload_n hx hb d_Mo_room_25 rfl (lv_at hl 1 rfl) ?_
    refine lv_i2l hx hb d_Mo_room_26 rfl ?_
    refine lv_lconst (v := 0) hx hb d_Mo_room_27 (by decide) ?_
    refine lv_ldc2 hx hb hown (hwg _ kw_321) d_Mo_room_28 ?_
    have hPc := hP.sub (ws' := []) [] rfl
    have hDc := hD.sub (ws' := []) [] (by decide) rfl
    refine k_calli hP hD hS hA [] [0] (wc := []) (wr := [(y0, .inr (7, [.ref eS, .ref eP, .int Mfe, .ref eM, .ref eK, .ref eG, .ref eR, .long Mbo, .long Mro, .int Mus, .ref eN, .ref eW, .ref eV, .int Mne, .ref eA, .long Mca, .long Mga, .long Mgl, .long Mfl, .long Mst, .ref eH, .ref eX, .ref eY, .ref eZ, .int Mhp, .int Mpl]))]) rfl rfl (by decide) (by decide) (va_runS (As := [.long (Int32.toInt64 p1), .long 0, .long 1000000000]) (rest := []) ⟨hx, hb, hml, hown, hwg⟩ (c_Mo_isIn l dC dI cI cL cZ H22.size (Int32.toInt64 p1) 0 1000000000) (va_cwS 3 hwg (g_S kw_357 kw_358 kw_21 kw_359) rfl rfl rfl (by decide +kernel) ⟨Nat.le_of_ble_eq_true rfl, Nat.le_of_ble_eq_true rfl⟩) ⟨c_pre_call, c_pre_mk hPc hDc hK hN _⟩ rfl rfl hl.1 rfl (lv_room (Nat.le_of_ble_eq_true rfl)) d_Mo_room_31 ⟨Nat.le_of_ble_eq_true rfl, Nat.le_of_ble_eq_true rfl⟩) (fun r31 u H31 locs w31 hz1 hP hD hS => ?_)
    have hP := hP.sub (ws' := [(y0, .inr (7, [.ref eS, .ref eP, .int Mfe, .ref eM, .ref eK, .ref eG, .ref eR, .long Mbo, .long Mro, .int Mus, .ref eN, .ref eW, .ref eV, .int Mne, .ref eA, .long Mca, .long Mga, .long Mgl, .long Mfl, .long Mst, .ref eH, .ref eX, .ref eY, .ref eZ, .int Mhp, .int Mpl]))]) [0] rfl
    have hD := hD.sub (ws' := [(y0, .inr (7, [.ref eS, .ref eP, .int Mfe, .ref eM, .ref eK, .ref eG, .ref eR, .long Mbo, .long Mro, .int Mus, .ref eN, .ref eW, .ref eV, .int Mne, .ref eA, .long Mca, .long Mga, .long Mgl, .long Mfl, .long Mst, .ref eH, .ref eX, .ref eY, .ref eZ, .int Mhp, .int Mpl]))]) [0] (by decide) rfl
    have hP9 := hP.sub (ws' := [(y0, .inr (7, [.ref eS, .ref eP, .int Mfe, .ref eM, .ref eK, .ref eG, .ref eR, .long Mbo, .long Mro, .int Mus, .ref eN, .ref eW, .ref eV, .int Mne, .ref eA, .long Mca, .long Mga, .long Mgl, .long Mfl, .long Mst, .ref eH, .ref eX, .ref eY, .ref eZ, .int Mhp, .int Mpl]))]) [0] rfl
    have hD9 := hD.sub (ws' := [(y0, .inr (7, [.ref eS, .ref eP, .int Mfe, .ref eM, .ref eK, .ref eG, .ref eR, .long Mbo, .long Mro, .int Mus, .ref eN, .ref eW, .ref eV, .int Mne, .ref eA, .long Mca, .long Mga, .long Mgl, .long Mfl, .long Mst, .ref eH, .ref eX, .ref eY, .ref eZ, .int Mhp, .int Mpl]))]) [0] (by decide) rfl
    exact W.zret (ty := .boolean) (v := r31) hx hb hr (f_isIn_nar w31) (fun t ht hW => ⟨⟨r31, (Mro), rfl, by have e : r7 = r31 := w7.symm.trans w31; subst e; first | (simp only [f_Mo_room, w7, if_pos c10]; done) | (simp only [f_Mo_room, w7, if_neg c10]; done), by rw [ht]; exact hP9, hD9⟩, hS.F ht⟩) hS.2.2 d_Mo_room_34
  · refine lv_iload_n hx hb d_Mo_room_13 rfl (lv_at hl 1 rfl) ?_
    refine lv_i2l hx hb d_Mo_room_14 rfl ?_
    refine lv_goto (tgt := 22) hx hb d_Mo_room_15 (by decide) ?_
    refine va_put (D := (dC, dI)) (ci := 7) (v := .long (Int32.toInt64 p1)) (ty := .long) (C := R_Mo) (T := F_Mo) (N := 26) hx hb hwg iu_Mo t_Mo t_Mo_ok n_Mo hown hK hP hD hS 0 rfl rfl 8 (by decide) (hwg _ kw_330) (fun _ h9 => h9) rfl (by decide +kernel) rfl rfl (Nat.le_of_ble_eq_true rfl) d_Mo_room_22 (fun H22 locs hP hD hS => ?_)
    have hP : va_P (dC, dI) vwCl [(y0, .inr (7, [.ref eS, .ref eP, .int Mfe, .ref eM, .ref eK, .ref eG, .ref eR, .long Mbo, .long (Int32.toInt64 p1), .int Mus, .ref eN, .ref eW, .ref eV, .int Mne, .ref eA, .long Mca, .long Mga, .long Mgl, .long Mfl, .long Mst, .ref eH, .ref eX, .ref eY, .ref eZ, .int Mhp, .int Mpl]))] H22 := hP
    have hD : va_D A [(y0, .inr (7, [.ref eS, .ref eP, .int Mfe, .ref eM, .ref eK, .ref eG, .ref eR, .long Mbo, .long (Int32.toInt64 p1), .int Mus, .ref eN, .ref eW, .ref eV, .int Mne, .ref eA, .long Mca, .long Mga, .long Mgl, .long Mfl, .long Mst, .ref eH, .ref eX, .ref eY, .ref eZ, .int Mhp, .int Mpl]))] := hD
    refine lv_iload_n hx hb d_Mo_room_25 rfl (lv_at hl 1 rfl) ?_
    refine lv_i2l hx hb d_Mo_room_26 rfl ?_
    refine lv_lconst (v := 0) hx hb d_Mo_room_27 (by decide) ?_
    refine lv_ldc2 hx hb hown (hwg _ kw_321) d_Mo_room_28 ?_
    have hPc := hP.sub (ws' := []) [] rfl
    have hDc := hD.sub (ws' := []) [] (by decide) rfl
    refine k_calli hP hD hS hA [] [0] (wc := []) (wr := [(y0, .inr (7, [.ref eS, .ref eP, .int Mfe, .ref eM, .ref eK, .ref eG, .ref eR, .long Mbo, .long (Int32.toInt64 p1), .int Mus, .ref eN, .ref eW, .ref eV, .int Mne, .ref eA, .long Mca, .long Mga, .long Mgl, .long Mfl, .long Mst, .ref eH, .ref eX, .ref eY, .ref eZ, .int Mhp, .int Mpl]))]) rfl rfl (by decide) (by decide) (va_runS (As := [.long (Int32.toInt64 p1), .long 0, .long 1000000000]) (rest := []) ⟨hx, hb, hml, hown, hwg⟩ (c_Mo_isIn l dC dI cI cL cZ H22.size (Int32.toInt64 p1) 0 1000000000) (va_cwS 3 hwg (g_S kw_357 kw_358 kw_21 kw_359) rfl rfl rfl (by decide +kernel) ⟨Nat.le_of_ble_eq_true rfl, Nat.le_of_ble_eq_true rfl⟩) ⟨c_pre_call, c_pre_mk hPc hDc hK hN _⟩ rfl rfl hl.1 rfl (lv_room (Nat.le_of_ble_eq_true rfl)) d_Mo_room_31 ⟨Nat.le_of_ble_eq_true rfl, Nat.le_of_ble_eq_true rfl⟩) (fun r31 u H31 locs w31 hz1 hP hD hS => ?_)
    have hP := hP.sub (ws' := [(y0, .inr (7, [.ref eS, .ref eP, .int Mfe, .ref eM, .ref eK, .ref eG, .ref eR, .long Mbo, .long (Int32.toInt64 p1), .int Mus, .ref eN, .ref eW, .ref eV, .int Mne, .ref eA, .long Mca, .long Mga, .long Mgl, .long Mfl, .long Mst, .ref eH, .ref eX, .ref eY, .ref eZ, .int Mhp, .int Mpl]))]) [0] rfl
    have hD := hD.sub (ws' := [(y0, .inr (7, [.ref eS, .ref eP, .int Mfe, .ref eM, .ref eK, .ref eG, .ref eR, .long Mbo, .long (Int32.toInt64 p1), .int Mus, .ref eN, .ref eW, .ref eV, .int Mne, .ref eA, .long Mca, .long Mga, .long Mgl, .long Mfl, .long Mst, .ref eH, .ref eX, .ref eY, .ref eZ, .int Mhp, .int Mpl]))]) [0] (by decide) rfl
    have hP9 := hP.sub (ws' := [(y0, .inr (7, [.ref eS, .ref eP, .int Mfe, .ref eM, .ref eK, .ref eG, .ref eR, .long Mbo, .long (Int32.toInt64 p1), .int Mus, .ref eN, .ref eW, .ref eV, .int Mne, .ref eA, .long Mca, .long Mga, .long Mgl, .long Mfl, .long Mst, .ref eH, .ref eX, .ref eY, .ref eZ, .int Mhp, .int Mpl]))]) [0] rfl
    have hD9 := hD.sub (ws' := [(y0, .inr (7, [.ref eS, .ref eP, .int Mfe, .ref eM, .ref eK, .ref eG, .ref eR, .long Mbo, .long (Int32.toInt64 p1), .int Mus, .ref eN, .ref eW, .ref eV, .int Mne, .ref eA, .long Mca, .long Mga, .long Mgl, .long Mfl, .long Mst, .ref eH, .ref eX, .ref eY, .ref eZ, .int Mhp, .int Mpl]))]) [0] (by decide) rfl
    exact W.zret (ty := .boolean) (v := r31) hx hb hr (f_isIn_nar w31) (fun t ht hW => ⟨⟨r31, (Int32.toInt64 p1), rfl, by have e : r7 = r31 := w7.symm.trans w31; subst e; first | (simp only [f_Mo_room, w7, if_pos c10]; done) | (simp only [f_Mo_room, w7, if_neg c10]; done), by rw [ht]; exact hP9, hD9⟩, hS.F ht⟩) hS.2.2 d_Mo_room_34
def f_Mo_rank (Mus : Int32) (Mrk : Nat → Int32) (Mwa : Nat → Int32) (p1 : Int32) (p2 : Int32) : Int32 × Int32 × (Nat → Int32) × (Nat → Int32) := if Mus = 4 then (((-1), Mus, Mrk, Mwa)) else (let r14 := f_Mo_isIn (Int32.toInt64 p1) 0 9; if r14 = 0 then (((-1), Mus, Mrk, Mwa)) else (let r26 := f_Mo_isIn (Int32.toInt64 p2) 0 1000000; if r26 = 0 then (((-1), Mus, Mrk, Mwa)) else (((Mus + 1) - 1, Mus + 1, upd Mrk (Int32.toNatClampNeg Mus) p1, upd Mwa (Int32.toNatClampNeg Mus) p2))))
abbrev rm_Mo_rank : Room := { frames := 1, cells := 0, slots := 0, locals := 25 }
set_option maxHeartbeats 4000000 in
set_option maxRecDepth 100000 in
theorem c_Mo_rank (l : Launch) (dC : Nat → ClassId) (dI : Nat → Nat → Nat) (cI cL cZ : ClassId) (y0 eS eP eM eK eG eR eN eW eV eA eH eX eY eZ : Nat) (sz : Nat) (Mfe : Int32) (Mbo : Int64) (Mro : Int64) (Mus : Int32) (Mne : Int32) (Mca : Int64) (Mga : Int64) (Mgl : Int64) (Mfl : Int64) (Mst : Int64) (Mhp : Int32) (Mpl : Int32) (Mrk : Nat → Int32) (Mwa : Nat → Int32) (p1 : Int32) (p2 : Int32) (hus : vp_in Mus 5) : Met l y_Mo_rank w_Mo_rank rm_Mo_rank (va_Pc [.ref y0, .int p1, .int p2] (c_pre dC dI cI cL cZ [(y0, .inr (7, [.ref eS, .ref eP, .int Mfe, .ref eM, .ref eK, .ref eG, .ref eR, .long Mbo, .long Mro, .int Mus, .ref eN, .ref eW, .ref eV, .int Mne, .ref eA, .long Mca, .long Mga, .long Mgl, .long Mfl, .long Mst, .ref eH, .ref eX, .ref eY, .ref eZ, .int Mhp, .int Mpl])), (eN, .inl (cI, 4, .inl Mrk)), (eW, .inl (cI, 4, .inl Mwa))] sz)) (va_Qi (fun (r : Int32) (u : Int32 × (Nat → Int32) × (Nat → Int32)) => f_Mo_rank Mus Mrk Mwa p1 p2 = (r, u)) (c_post dC dI (fun (u : Int32 × (Nat → Int32) × (Nat → Int32)) => [(y0, .inr (7, [.ref eS, .ref eP, .int Mfe, .ref eM, .ref eK, .ref eG, .ref eR, .long Mbo, .long Mro, .int u.1, .ref eN, .ref eW, .ref eV, .int Mne, .ref eA, .long Mca, .long Mga, .long Mgl, .long Mfl, .long Mst, .ref eH, .ref eX, .ref eY, .ref eZ, .int Mhp, .int Mpl])), (eN, .inl (cI, 4, .inl u.2.1)), (eW, .inl (cI, 4, .inl u.2.2))]) (va_A [(y0, .inr (7, [.ref eS, .ref eP, .int Mfe, .ref eM, .ref eK, .ref eG, .ref eR, .long Mbo, .long Mro, .int Mus, .ref eN, .ref eW, .ref eV, .int Mne, .ref eA, .long Mca, .long Mga, .long Mgl, .long Mfl, .long Mst, .ref eH, .ref eX, .ref eY, .ref eZ, .int Mhp, .int Mpl])), (eN, .inl (cI, 4, .inl Mrk)), (eW, .inl (cI, 4, .inl Mwa))] sz)) (va_A [(y0, .inr (7, [.ref eS, .ref eP, .int Mfe, .ref eM, .ref eK, .ref eG, .ref eR, .long Mbo, .long Mro, .int Mus, .ref eN, .ref eW, .ref eV, .int Mne, .ref eA, .long Mca, .long Mga, .long Mgl, .long Mfl, .long Mst, .ref eH, .ref eX, .ref eY, .ref eZ, .int Mhp, .int Mpl])), (eN, .inl (cI, 4, .inl Mrk)), (eW, .inl (cI, 4, .inl Mwa))] sz)) 0 0 (va_A [(y0, .inr (7, [.ref eS, .ref eP, .int Mfe, .ref eM, .ref eK, .ref eG, .ref eR, .long Mbo, .long Mro, .int Mus, .ref eN, .ref eW, .ref eV, .int Mne, .ref eA, .long Mca, .long Mga, .long Mgl, .long Mfl, .long Mst, .ref eH, .ref eX, .ref eY, .ref eZ, .int Mhp, .int Mpl])), (eN, .inl (cI, 4, .inl Mrk)), (eW, .inl (cI, 4, .inl Mwa))] sz) := by
  refine Met.ofW (cc := b_Mo_rank) (maxL := 3) (ret := (some .int)) (by decide) rfl ?_
  intro p e s m args below meth c s₁ B hml hv
  obtain ⟨rfl, hsz, hP, hK, hN, hD0⟩ := hv
  have hx := B.exec
  have hb := B.bytes
  have hr := B.returns
  have hts := atoms_spec (ws := w_Mo_rank) B.pre
  have hown : s.vm.findClass R_Mo = some m.cls := findClass_of_methodNamed B.named
  have hlocks := B.notSynchronized
  have hwg : ∀ w ∈ wg, w.before ([.ref y0, .int p1, .int p2] : List Value).toArray s = true := fun w h => hts w (List.mem_cons_of_mem _ h)
  subst hsz
  have hD := hD0.self (sz := s.heap.size)
  generalize hAe : va_A [(y0, .inr (7, [.ref eS, .ref eP, .int Mfe, .ref eM, .ref eK, .ref eG, .ref eR, .long Mbo, .long Mro, .int Mus, .ref eN, .ref eW, .ref eV, .int Mne, .ref eA, .long Mca, .long Mga, .long Mgl, .long Mfl, .long Mst, .ref eH, .ref eX, .ref eY, .ref eZ, .int Mhp, .int Mpl])), (eN, .inl (cI, 4, .inl Mrk)), (eW, .inl (cI, 4, .inl Mwa))] s.heap.size = A at hD ⊢
  have hA : ∀ q : Nat, s.heap.size ≤ q → A q := fun q h => by rw [← hAe]; exact Or.inr h
  have hS : va_S A s.heap s.heap [] := va_S.rf
  have hP : va_P (dC, dI) vwCl [(y0, .inr (7, [.ref eS, .ref eP, .int Mfe, .ref eM, .ref eK, .ref eG, .ref eR, .long Mbo, .long Mro, .int Mus, .ref eN, .ref eW, .ref eV, .int Mne, .ref eA, .long Mca, .long Mga, .long Mgl, .long Mfl, .long Mst, .ref eH, .ref eX, .ref eY, .ref eZ, .int Mhp, .int Mpl])), (eN, .inl (cI, 4, .inl Mrk)), (eW, .inl (cI, 4, .inl Mwa))] s.heap := hP
  have hl := lv_entry ([.ref y0, .int p1, .int p2]) (n := 3) (Nat.le_of_ble_eq_true rfl)
  rw [lg_entry_eq]
  generalize (lg_sl ([.ref y0, .int p1, .int p2]) ++ List.replicate (3 - (lg_sl ([.ref y0, .int p1, .int p2])).length) Slot.unset).toArray = ls at hl ⊢
  have hl : lv_has ls 3 [(0, .ref y0), (1, .int p1), (2, .int p2)] := hl
  refine lv_aload_n hx hb d_Mo_rank_0 rfl (lv_at hl 0 rfl) ?_
  refine va_get (D := (dC, dI)) (ci := 7) (v := .int Mus) (C := R_Mo) (T := F_Mo) (N := 26) hx hb hwg iu_Mo hown hK hP 0 rfl rfl 9 (by decide) (hwg _ kw_331) (fun _ h9 => h9) rfl d_Mo_rank_1 ?_
  refine lv_iconst (v := 4) hx hb d_Mo_rank_4 (by decide) ?_
  refine lv_icmp_eq (tgt := 32) hx hb d_Mo_rank_5 (by decide) (fun (c5 : Mus = 4) => ?_) (fun (c5 : ¬ (Mus = 4)) => ?_)
  · refine lv_iconst (v := (-1)) hx hb d_Mo_rank_32 (by decide) ?_
    have hP9 := hP.sub (ws' := [(y0, .inr (7, [.ref eS, .ref eP, .int Mfe, .ref eM, .ref eK, .ref eG, .ref eR, .long Mbo, .long Mro, .int Mus, .ref eN, .ref eW, .ref eV, .int Mne, .ref eA, .long Mca, .long Mga, .long Mgl, .long Mfl, .long Mst, .ref eH, .ref eX, .ref eY, .ref eZ, .int Mhp, .int Mpl])), (eN, .inl (cI, 4, .inl Mrk)), (eW, .inl (cI, 4, .inl Mwa))]) [0, 1, 2] rfl
    have hD9 := hD.sub (ws' := [(y0, .inr (7, [.ref eS, .ref eP, .int Mfe, .ref eM, .ref eK, .ref eG, .ref eR, .long Mbo, .long Mro, .int Mus, .ref eN, .ref eW, .ref eV, .int Mne, .ref eA, .long Mca, .long Mga, .long Mgl, .long Mfl, .long Mst, .ref eH, .ref eX, .ref eY, .ref eZ, .int Mhp, .int Mpl])), (eN, .inl (cI, 4, .inl Mrk)), (eW, .inl (cI, 4, .inl Mwa))]) [0, 1, 2] (by decide) rfl
    exact W.iret (v := (-1)) hx hb hr (fun t ht hW => ⟨⟨(-1), (Mus, Mrk, Mwa), rfl, by simp only [f_Mo_rank, if_pos c5], by rw [ht]; exact hP9, hD9⟩, hS.F ht⟩) hS.2.2 d_Mo_rank_33
  · refine lv_iload_n hx hb d_Mo_rank_8 rfl (lv_at hl 1 rfl) ?_
    refine lv_i2l hx hb d_Mo_rank_9 rfl ?_
    refine lv_lconst (v := 0) hx hb d_Mo_rank_10 (by decide) ?_
    refine lv_ldc2 hx hb hown (hwg _ kw_389) d_Mo_rank_11 ?_
    have hPc := hP.sub (ws' := []) [] rfl
    have hDc := hD.sub (ws' := []) [] (by decide) rfl
    refine k_calli hP hD hS hA [] [0, 1, 2] (wc := []) (wr := [(y0, .inr (7, [.ref eS, .ref eP, .int Mfe, .ref eM, .ref eK, .ref eG, .ref eR, .long Mbo, .long Mro, .int Mus, .ref eN, .ref eW, .ref eV, .int Mne, .ref eA, .long Mca, .long Mga, .long Mgl, .long Mfl, .long Mst, .ref eH, .ref eX, .ref eY, .ref eZ, .int Mhp, .int Mpl])), (eN, .inl (cI, 4, .inl Mrk)), (eW, .inl (cI, 4, .inl Mwa))]) rfl rfl (by decide) (by decide) (va_runS (As := [.long (Int32.toInt64 p1), .long 0, .long 9]) (rest := []) ⟨hx, hb, hml, hown, hwg⟩ (c_Mo_isIn l dC dI cI cL cZ s.heap.size (Int32.toInt64 p1) 0 9) (va_cwS 3 hwg (g_S kw_357 kw_358 kw_21 kw_359) rfl rfl rfl (by decide +kernel) ⟨Nat.le_of_ble_eq_true rfl, Nat.le_of_ble_eq_true rfl⟩) ⟨c_pre_call, c_pre_mk hPc hDc hK hN _⟩ rfl rfl hl.1 rfl (lv_room (Nat.le_of_ble_eq_true rfl)) d_Mo_rank_14 ⟨Nat.le_of_ble_eq_true rfl, Nat.le_of_ble_eq_true rfl⟩) (fun r14 u H14 locs w14 hz1 hP hD hS => ?_)
    have hP := hP.sub (ws' := [(y0, .inr (7, [.ref eS, .ref eP, .int Mfe, .ref eM, .ref eK, .ref eG, .ref eR, .long Mbo, .long Mro, .int Mus, .ref eN, .ref eW, .ref eV, .int Mne, .ref eA, .long Mca, .long Mga, .long Mgl, .long Mfl, .long Mst, .ref eH, .ref eX, .ref eY, .ref eZ, .int Mhp, .int Mpl])), (eN, .inl (cI, 4, .inl Mrk)), (eW, .inl (cI, 4, .inl Mwa))]) [0, 1, 2] rfl
    have hD := hD.sub (ws' := [(y0, .inr (7, [.ref eS, .ref eP, .int Mfe, .ref eM, .ref eK, .ref eG, .ref eR, .long Mbo, .long Mro, .int Mus, .ref eN, .ref eW, .ref eV, .int Mne, .ref eA, .long Mca, .long Mga, .long Mgl, .long Mfl, .long Mst, .ref eH, .ref eX, .ref eY, .ref eZ, .int Mhp, .int Mpl])), (eN, .inl (cI, 4, .inl Mrk)), (eW, .inl (cI, 4, .inl Mwa))]) [0, 1, 2] (by decide) rfl
    refine lv_if_eq (tgt := 32) hx hb d_Mo_rank_17 (by decide) (fun (c17 : r14 = 0) => ?_) (fun (c17 : ¬ (r14 = 0)) => ?_)
    · refine lv_iconst (v := (-1)) hx hb d_Mo_rank_32 (by decide) ?_
      have hP9 := hP.sub (ws' := [(y0, .inr (7, [.ref eS, .ref eP, .int Mfe, .ref eM, .ref eK, .ref eG, .ref eR, .long Mbo, .long Mro, .int Mus, .ref eN, .ref eW, .ref eV, .int Mne, .ref eA, .long Mca, .long Mga, .long Mgl, .long Mfl, .long Mst, .ref eH, .ref eX, .ref eY, .ref eZ, .int Mhp, .int Mpl])), (eN, .inl (cI, 4, .inl Mrk)), (eW, .inl (cI, 4, .inl Mwa))]) [0, 1, 2] rfl
      have hD9 := hD.sub (ws' := [(y0, .inr (7, [.ref eS, .ref eP, .int Mfe, .ref eM, .ref eK, .ref eG, .ref eR, .long Mbo, .long Mro, .int Mus, .ref eN, .ref eW, .ref eV, .int Mne, .ref eA, .long Mca, .long Mga, .long Mgl, .long Mfl, .long Mst, .ref eH, .ref eX, .ref eY, .ref eZ, .int Mhp, .int Mpl])), (eN, .inl (cI, 4, .inl Mrk)), (eW, .inl (cI, 4, .inl Mwa))]) [0, 1, 2] (by decide) rfl
      exact W.iret (v := (-1)) hx hb hr (fun t ht hW => ⟨⟨(-1), (Mus, Mrk, Mwa), rfl, by simp only [f_Mo_rank, if_neg c5, w14, if_pos c17], by rw [ht]; exact hP9, hD9⟩, hS.F ht⟩) hS.2.2 d_Mo_rank_33
    · refine lv_iload_n hx hb d_Mo_rank_20 rfl (lv_at hl 2 rfl) ?_
      refine lv_i2l hx hb d_Mo_rank_21 rfl ?_
      refine lv_lconst (v := 0) hx hb d_Mo_rank_22 (by decide) ?_
      refine lv_ldc2 hx hb hown (hwg _ kw_366) d_Mo_rank_23 ?_
      have hPc := hP.sub (ws' := []) [] rfl
      have hDc := hD.sub (ws' := []) [] (by decide) rfl
      refine k_calli hP hD hS hA [] [0, 1, 2] (wc := []) (wr := [(y0, .inr (7, [.ref eS, .ref eP, .int Mfe, .ref eM, .ref eK, .ref eG, .ref eR, .long Mbo, .long Mro, .int Mus, .ref eN, .ref eW, .ref eV, .int Mne, .ref eA, .long Mca, .long Mga, .long Mgl, .long Mfl, .long Mst, .ref eH, .ref eX, .ref eY, .ref eZ, .int Mhp, .int Mpl])), (eN, .inl (cI, 4, .inl Mrk)), (eW, .inl (cI, 4, .inl Mwa))]) rfl rfl (by decide) (by decide) (va_runS (As := [.long (Int32.toInt64 p2), .long 0, .long 1000000]) (rest := []) ⟨hx, hb, hml, hown, hwg⟩ (c_Mo_isIn l dC dI cI cL cZ H14.size (Int32.toInt64 p2) 0 1000000) (va_cwS 3 hwg (g_S kw_357 kw_358 kw_21 kw_359) rfl rfl rfl (by decide +kernel) ⟨Nat.le_of_ble_eq_true rfl, Nat.le_of_ble_eq_true rfl⟩) ⟨c_pre_call, c_pre_mk hPc hDc hK hN _⟩ rfl rfl hl.1 rfl (lv_room (Nat.le_of_ble_eq_true rfl)) d_Mo_rank_26 ⟨Nat.le_of_ble_eq_true rfl, Nat.le_of_ble_eq_true rfl⟩) (fun r26 u H26 locs w26 hz1 hP hD hS => ?_)
      have hP := hP.sub (ws' := [(y0, .inr (7, [.ref eS, .ref eP, .int Mfe, .ref eM, .ref eK, .ref eG, .ref eR, .long Mbo, .long Mro, .int Mus, .ref eN, .ref eW, .ref eV, .int Mne, .ref eA, .long Mca, .long Mga, .long Mgl, .long Mfl, .long Mst, .ref eH, .ref eX, .ref eY, .ref eZ, .int Mhp, .int Mpl])), (eN, .inl (cI, 4, .inl Mrk)), (eW, .inl (cI, 4, .inl Mwa))]) [0, 1, 2] rfl
      have hD := hD.sub (ws' := [(y0, .inr (7, [.ref eS, .ref eP, .int Mfe, .ref eM, .ref eK, .ref eG, .ref eR, .long Mbo, .long Mro, .int Mus, .ref eN, .ref eW, .ref eV, .int Mne, .ref eA, .long Mca, .long Mga, .long Mgl, .long Mfl, .long Mst, .ref eH, .ref eX, .ref eY, .ref eZ, .int Mhp, .int Mpl])), (eN, .inl (cI, 4, .inl Mrk)), (eW, .inl (cI, 4, .inl Mwa))]) [0, 1, 2] (by decide) rfl
      refine lv_if_ne (tgt := 34) hx hb d_Mo_rank_29 (by decide) (fun (c29 : ¬ (r26 = 0)) => ?_) (fun (c29 : r26 = 0) => ?_)
      · refine lv_aload_n hx hb d_Mo_rank_34 rfl (lv_at hl 0 rfl) ?_
        refine va_get (D := (dC, dI)) (ci := 7) (v := .ref eN) (C := R_Mo) (T := F_Mo) (N := 26) hx hb hwg iu_Mo hown hK hP 0 rfl rfl 10 (by decide) (hwg _ kw_332) (fun _ h9 => h9) rfl d_Mo_rank_35 ?_
        refine lv_aload_n hx hb d_Mo_rank_38 rfl (lv_at hl 0 rfl) ?_
        refine va_get (D := (dC, dI)) (ci := 7) (v := .int Mus) (C := R_Mo) (T := F_Mo) (N := 26) hx hb hwg iu_Mo hown hK hP 0 rfl rfl 9 (by decide) (hwg _ kw_331) (fun _ h9 => h9) rfl d_Mo_rank_39 ?_
        refine lv_iload_n hx hb d_Mo_rank_42 rfl (lv_at hl 1 rfl) ?_
        refine va_iast hx hb hK hP hD hS 1 0 rfl rfl (in_mus hus c5) d_Mo_rank_43 (fun H43 locs hP hD hS => ?_)
        have hP : va_P (dC, dI) vwCl [(y0, .inr (7, [.ref eS, .ref eP, .int Mfe, .ref eM, .ref eK, .ref eG, .ref eR, .long Mbo, .long Mro, .int Mus, .ref eN, .ref eW, .ref eV, .int Mne, .ref eA, .long Mca, .long Mga, .long Mgl, .long Mfl, .long Mst, .ref eH, .ref eX, .ref eY, .ref eZ, .int Mhp, .int Mpl])), (eN, .inl (cI, 4, .inl (upd Mrk (Int32.toNatClampNeg Mus) p1))), (eW, .inl (cI, 4, .inl Mwa))] H43 := hP
        have hD : va_D A [(y0, .inr (7, [.ref eS, .ref eP, .int Mfe, .ref eM, .ref eK, .ref eG, .ref eR, .long Mbo, .long Mro, .int Mus, .ref eN, .ref eW, .ref eV, .int Mne, .ref eA, .long Mca, .long Mga, .long Mgl, .long Mfl, .long Mst, .ref eH, .ref eX, .ref eY, .ref eZ, .int Mhp, .int Mpl])), (eN, .inl (cI, 4, .inl (upd Mrk (Int32.toNatClampNeg Mus) p1))), (eW, .inl (cI, 4, .inl Mwa))] := hD
        refine lv_aload_n hx hb d_Mo_rank_44 rfl (lv_at hl 0 rfl) ?_
        refine va_get (D := (dC, dI)) (ci := 7) (v := .ref eW) (C := R_Mo) (T := F_Mo) (N := 26) hx hb hwg iu_Mo hown hK hP 0 rfl rfl 11 (by decide) (hwg _ kw_333) (fun _ h9 => h9) rfl d_Mo_rank_45 ?_
        refine lv_aload_n hx hb d_Mo_rank_48 rfl (lv_at hl 0 rfl) ?_
        refine va_get (D := (dC, dI)) (ci := 7) (v := .int Mus) (C := R_Mo) (T := F_Mo) (N := 26) hx hb hwg iu_Mo hown hK hP 0 rfl rfl 9 (by decide) (hwg _ kw_331) (fun _ h9 => h9) rfl d_Mo_rank_49 ?_
        refine lv_iload_n hx hb d_Mo_rank_52 rfl (lv_at hl 2 rfl) ?_
        refine va_iast hx hb hK hP hD hS 2 0 rfl rfl (in_mus hus c5) d_Mo_rank_53 (fun H53 locs hP hD hS => ?_)
        have hP : va_P (dC, dI) vwCl [(y0, .inr (7, [.ref eS, .ref eP, .int Mfe, .ref eM, .ref eK, .ref eG, .ref eR, .long Mbo, .long Mro, .int Mus, .ref eN, .ref eW, .ref eV, .int Mne, .ref eA, .long Mca, .long Mga, .long Mgl, .long Mfl, .long Mst, .ref eH, .ref eX, .ref eY, .ref eZ, .int Mhp, .int Mpl])), (eN, .inl (cI, 4, .inl (upd Mrk (Int32.toNatClampNeg Mus) p1))), (eW, .inl (cI, 4, .inl (upd Mwa (Int32.toNatClampNeg Mus) p2)))] H53 := hP
        have hD : va_D A [(y0, .inr (7, [.ref eS, .ref eP, .int Mfe, .ref eM, .ref eK, .ref eG, .ref eR, .long Mbo, .long Mro, .int Mus, .ref eN, .ref eW, .ref eV, .int Mne, .ref eA, .long Mca, .long Mga, .long Mgl, .long Mfl, .long Mst, .ref eH, .ref eX, .ref eY, .ref eZ, .int Mhp, .int Mpl])), (eN, .inl (cI, 4, .inl (upd Mrk (Int32.toNatClampNeg Mus) p1))), (eW, .inl (cI, 4, .inl (upd Mwa (Int32.toNatClampNeg Mus) p2)))] := hD
        refine lv_aload_n hx hb d_Mo_rank_54 rfl (lv_at hl 0 rfl) ?_
        refine lv_dup hx hb d_Mo_rank_55 rfl ?_
        refine va_get (D := (dC, dI)) (ci := 7) (v := .int Mus) (C := R_Mo) (T := F_Mo) (N := 26) hx hb hwg iu_Mo hown hK hP 0 rfl rfl 9 (by decide) (hwg _ kw_331) (fun _ h9 => h9) rfl d_Mo_rank_56 ?_
        refine lv_iconst (v := 1) hx hb d_Mo_rank_59 (by decide) ?_
        refine lv_iadd hx hb d_Mo_rank_60 ?_
        refine va_put (D := (dC, dI)) (ci := 7) (v := .int (Mus + 1)) (ty := .int) (C := R_Mo) (T := F_Mo) (N := 26) hx hb hwg iu_Mo t_Mo t_Mo_ok n_Mo hown hK hP hD hS 0 rfl rfl 9 (by decide) (hwg _ kw_331) (fun _ h9 => h9) rfl (by decide +kernel) rfl rfl (Nat.le_of_ble_eq_true rfl) d_Mo_rank_61 (fun H61 locs hP hD hS => ?_)
        have hP : va_P (dC, dI) vwCl [(y0, .inr (7, [.ref eS, .ref eP, .int Mfe, .ref eM, .ref eK, .ref eG, .ref eR, .long Mbo, .long Mro, .int (Mus + 1), .ref eN, .ref eW, .ref eV, .int Mne, .ref eA, .long Mca, .long Mga, .long Mgl, .long Mfl, .long Mst, .ref eH, .ref eX, .ref eY, .ref eZ, .int Mhp, .int Mpl])), (eN, .inl (cI, 4, .inl (upd Mrk (Int32.toNatClampNeg Mus) p1))), (eW, .inl (cI, 4, .inl (upd Mwa (Int32.toNatClampNeg Mus) p2)))] H61 := hP
        have hD : va_D A [(y0, .inr (7, [.ref eS, .ref eP, .int Mfe, .ref eM, .ref eK, .ref eG, .ref eR, .long Mbo, .long Mro, .int (Mus + 1), .ref eN, .ref eW, .ref eV, .int Mne, .ref eA, .long Mca, .long Mga, .long Mgl, .long Mfl, .long Mst, .ref eH, .ref eX, .ref eY, .ref eZ, .int Mhp, .int Mpl])), (eN, .inl (cI, 4, .inl (upd Mrk (Int32.toNatClampNeg Mus) p1))), (eW, .inl (cI, 4, .inl (upd Mwa (Int32.toNatClampNeg Mus) p2)))] := hD
        refine lv_aload_n hx hb d_Mo_rank_64 rfl (lv_at hl 0 rfl) ?_
        refine va_get (D := (dC, dI)) (ci := 7) (v := .int (Mus + 1)) (C := R_Mo) (T := F_Mo) (N := 26) hx hb hwg iu_Mo hown hK hP 0 rfl rfl 9 (by decide) (hwg _ kw_331) (fun _ h9 => h9) rfl d_Mo_rank_65 ?_
        refine lv_iconst (v := 1) hx hb d_Mo_rank_68 (by decide) ?_
        refine lv_isub hx hb d_Mo_rank_69 ?_
        have hP9 := hP.sub (ws' := [(y0, .inr (7, [.ref eS, .ref eP, .int Mfe, .ref eM, .ref eK, .ref eG, .ref eR, .long Mbo, .long Mro, .int (Mus + 1), .ref eN, .ref eW, .ref eV, .int Mne, .ref eA, .long Mca, .long Mga, .long Mgl, .long Mfl, .long Mst, .ref eH, .ref eX, .ref eY, .ref eZ, .int Mhp, .int Mpl])), (eN, .inl (cI, 4, .inl (upd Mrk (Int32.toNatClampNeg Mus) p1))), (eW, .inl (cI, 4, .inl (upd Mwa (Int32.toNatClampNeg Mus) p2)))]) [0, 1, 2] rfl
        have hD9 := hD.sub (ws' := [(y0, .inr (7, [.ref eS, .ref eP, .int Mfe, .ref eM, .ref eK, .ref eG, .ref eR, .long Mbo, .long Mro, .int (Mus + 1), .ref eN, .ref eW, .ref eV, .int Mne, .ref eA, .long Mca, .long Mga, .long Mgl, .long Mfl, .long Mst, .ref eH, .ref eX, .ref eY, .ref eZ, .int Mhp, .int Mpl])), (eN, .inl (cI, 4, .inl (upd Mrk (Int32.toNatClampNeg Mus) p1))), (eW, .inl (cI, 4, .inl (upd Mwa (Int32.toNatClampNeg Mus) p2)))]) [0, 1, 2] (by decide) rfl
        exact W.iret (v := (Mus + 1) - 1) hx hb hr (fun t ht hW => ⟨⟨(Mus + 1) - 1, (Mus + 1, upd Mrk (Int32.toNatClampNeg Mus) p1, upd Mwa (Int32.toNatClampNeg Mus) p2), rfl, by simp only [f_Mo_rank, if_neg c5, w14, if_neg c17, w26, if_neg c29], by rw [ht]; exact hP9, hD9⟩, hS.F ht⟩) hS.2.2 d_Mo_rank_70
      · refine lv_iconst (v := (-1)) hx hb d_Mo_rank_32 (by decide) ?_
        have hP9 := hP.sub (ws' := [(y0, .inr (7, [.ref eS, .ref eP, .int Mfe, .ref eM, .ref eK, .ref eG, .ref eR, .long Mbo, .long Mro, .int Mus, .ref eN, .ref eW, .ref eV, .int Mne, .ref eA, .long Mca, .long Mga, .long Mgl, .long Mfl, .long Mst, .ref eH, .ref eX, .ref eY, .ref eZ, .int Mhp, .int Mpl])), (eN, .inl (cI, 4, .inl Mrk)), (eW, .inl (cI, 4, .inl Mwa))]) [0, 1, 2] rfl
        have hD9 := hD.sub (ws' := [(y0, .inr (7, [.ref eS, .ref eP, .int Mfe, .ref eM, .ref eK, .ref eG, .ref eR, .long Mbo, .long Mro, .int Mus, .ref eN, .ref eW, .ref eV, .int Mne, .ref eA, .long Mca, .long Mga, .long Mgl, .long Mfl, .long Mst, .ref eH, .ref eX, .ref eY, .ref eZ, .int Mhp, .int Mpl])), (eN, .inl (cI, 4, .inl Mrk)), (eW, .inl (cI, 4, .inl Mwa))]) [0, 1, 2] (by decide) rfl
        exact W.iret (v := (-1)) hx hb hr (fun t ht hW => ⟨⟨(-1), (Mus, Mrk, Mwa), rfl, by simp only [f_Mo_rank, if_neg c5, w14, if_neg c17, w26, if_pos c29], by rw [ht]; exact hP9, hD9⟩, hS.F ht⟩) hS.2.2 d_Mo_rank_33
def f_Mo_comes (Mca : Int64) (Msh : Nat → Int32) (Mpa : Nat → Int64) (p1 : Int32) (p2 : Int64) : Int64 × (Nat → Int64) := (Mca + p2, vp_updL (vp_updL (vp_updL (vp_updL Mpa 0 ((Mpa 0) + ((p2 * (Int32.toInt64 (Msh (Int32.toNatClampNeg ((3 * p1) + 0))))) / 1000))) 1 (((vp_updL Mpa 0 ((Mpa 0) + ((p2 * (Int32.toInt64 (Msh (Int32.toNatClampNeg ((3 * p1) + 0))))) / 1000))) 1) + ((p2 * (Int32.toInt64 (Msh (Int32.toNatClampNeg ((3 * p1) + 1))))) / 1000))) 2 (((vp_updL (vp_updL Mpa 0 ((Mpa 0) + ((p2 * (Int32.toInt64 (Msh (Int32.toNatClampNeg ((3 * p1) + 0))))) / 1000))) 1 (((vp_updL Mpa 0 ((Mpa 0) + ((p2 * (Int32.toInt64 (Msh (Int32.toNatClampNeg ((3 * p1) + 0))))) / 1000))) 1) + ((p2 * (Int32.toInt64 (Msh (Int32.toNatClampNeg ((3 * p1) + 1))))) / 1000))) 2) + ((p2 * (Int32.toInt64 (Msh (Int32.toNatClampNeg ((3 * p1) + 2))))) / 1000))) 3 (((vp_updL (vp_updL (vp_updL Mpa 0 ((Mpa 0) + ((p2 * (Int32.toInt64 (Msh (Int32.toNatClampNeg ((3 * p1) + 0))))) / 1000))) 1 (((vp_updL Mpa 0 ((Mpa 0) + ((p2 * (Int32.toInt64 (Msh (Int32.toNatClampNeg ((3 * p1) + 0))))) / 1000))) 1) + ((p2 * (Int32.toInt64 (Msh (Int32.toNatClampNeg ((3 * p1) + 1))))) / 1000))) 2 (((vp_updL (vp_updL Mpa 0 ((Mpa 0) + ((p2 * (Int32.toInt64 (Msh (Int32.toNatClampNeg ((3 * p1) + 0))))) / 1000))) 1 (((vp_updL Mpa 0 ((Mpa 0) + ((p2 * (Int32.toInt64 (Msh (Int32.toNatClampNeg ((3 * p1) + 0))))) / 1000))) 1) + ((p2 * (Int32.toInt64 (Msh (Int32.toNatClampNeg ((3 * p1) + 1))))) / 1000))) 2) + ((p2 * (Int32.toInt64 (Msh (Int32.toNatClampNeg ((3 * p1) + 2))))) / 1000))) 3) + (((p2 - ((p2 * (Int32.toInt64 (Msh (Int32.toNatClampNeg ((3 * p1) + 0))))) / 1000)) - ((p2 * (Int32.toInt64 (Msh (Int32.toNatClampNeg ((3 * p1) + 1))))) / 1000)) - ((p2 * (Int32.toInt64 (Msh (Int32.toNatClampNeg ((3 * p1) + 2))))) / 1000))))
abbrev rm_Mo_comes : Room := { frames := 0, cells := 0, slots := 0, locals := 0 }
set_option maxHeartbeats 4000000 in
set_option maxRecDepth 100000 in
theorem c_Mo_comes (l : Launch) (dC : Nat → ClassId) (dI : Nat → Nat → Nat) (cI cL cZ : ClassId) (y0 eS eP eM eK eG eR eN eW eV eA eH eX eY eZ : Nat) (sz : Nat) (Mfe : Int32) (Mbo : Int64) (Mro : Int64) (Mus : Int32) (Mne : Int32) (Mca : Int64) (Mga : Int64) (Mgl : Int64) (Mfl : Int64) (Mst : Int64) (Mhp : Int32) (Mpl : Int32) (Msh : Nat → Int32) (Mpa : Nat → Int64) (p1 : Int32) (p2 : Int64) (hp : vp_in p1 4) : Met l y_Mo_comes w_Mo_comes rm_Mo_comes (va_Pc [.ref y0, .int p1, .long p2] (c_pre dC dI cI cL cZ [(y0, .inr (7, [.ref eS, .ref eP, .int Mfe, .ref eM, .ref eK, .ref eG, .ref eR, .long Mbo, .long Mro, .int Mus, .ref eN, .ref eW, .ref eV, .int Mne, .ref eA, .long Mca, .long Mga, .long Mgl, .long Mfl, .long Mst, .ref eH, .ref eX, .ref eY, .ref eZ, .int Mhp, .int Mpl])), (eS, .inl (cI, 12, .inl Msh)), (eP, .inl (cL, 4, .inr (.inl Mpa)))] sz)) (va_Qv (fun (u : Int64 × (Nat → Int64)) => f_Mo_comes Mca Msh Mpa p1 p2 = u) (c_post dC dI (fun (u : Int64 × (Nat → Int64)) => [(y0, .inr (7, [.ref eS, .ref eP, .int Mfe, .ref eM, .ref eK, .ref eG, .ref eR, .long Mbo, .long Mro, .int Mus, .ref eN, .ref eW, .ref eV, .int Mne, .ref eA, .long u.1, .long Mga, .long Mgl, .long Mfl, .long Mst, .ref eH, .ref eX, .ref eY, .ref eZ, .int Mhp, .int Mpl])), (eS, .inl (cI, 12, .inl Msh)), (eP, .inl (cL, 4, .inr (.inl u.2)))]) (va_A [(y0, .inr (7, [.ref eS, .ref eP, .int Mfe, .ref eM, .ref eK, .ref eG, .ref eR, .long Mbo, .long Mro, .int Mus, .ref eN, .ref eW, .ref eV, .int Mne, .ref eA, .long Mca, .long Mga, .long Mgl, .long Mfl, .long Mst, .ref eH, .ref eX, .ref eY, .ref eZ, .int Mhp, .int Mpl])), (eS, .inl (cI, 12, .inl Msh)), (eP, .inl (cL, 4, .inr (.inl Mpa)))] sz)) (va_A [(y0, .inr (7, [.ref eS, .ref eP, .int Mfe, .ref eM, .ref eK, .ref eG, .ref eR, .long Mbo, .long Mro, .int Mus, .ref eN, .ref eW, .ref eV, .int Mne, .ref eA, .long Mca, .long Mga, .long Mgl, .long Mfl, .long Mst, .ref eH, .ref eX, .ref eY, .ref eZ, .int Mhp, .int Mpl])), (eS, .inl (cI, 12, .inl Msh)), (eP, .inl (cL, 4, .inr (.inl Mpa)))] sz)) 0 0 (va_A [(y0, .inr (7, [.ref eS, .ref eP, .int Mfe, .ref eM, .ref eK, .ref eG, .ref eR, .long Mbo, .long Mro, .int Mus, .ref eN, .ref eW, .ref eV, .int Mne, .ref eA, .long Mca, .long Mga, .long Mgl, .long Mfl, .long Mst, .ref eH, .ref eX, .ref eY, .ref eZ, .int Mhp, .int Mpl])), (eS, .inl (cI, 12, .inl Msh)), (eP, .inl (cL, 4, .inr (.inl Mpa)))] sz) := by
  refine Met.ofW (cc := b_Mo_comes) (maxL := 9) (ret := none) (by decide) rfl ?_
  intro p e s m args below meth c s₁ B hml hv
  obtain ⟨rfl, hsz, hP, hK, hN, hD0⟩ := hv
  have hx := B.exec
  have hb := B.bytes
  have hr := B.returns
  have hts := atoms_spec (ws := w_Mo_comes) B.pre
  have hown : s.vm.findClass R_Mo = some m.cls := findClass_of_methodNamed B.named
  have hlocks := B.notSynchronized
  have hwg : ∀ w ∈ wg, w.before ([.ref y0, .int p1, .long p2] : List Value).toArray s = true := fun w h => hts w (List.mem_cons_of_mem _ h)
  subst hsz
  have hD := hD0.self (sz := s.heap.size)
  generalize hAe : va_A [(y0, .inr (7, [.ref eS, .ref eP, .int Mfe, .ref eM, .ref eK, .ref eG, .ref eR, .long Mbo, .long Mro, .int Mus, .ref eN, .ref eW, .ref eV, .int Mne, .ref eA, .long Mca, .long Mga, .long Mgl, .long Mfl, .long Mst, .ref eH, .ref eX, .ref eY, .ref eZ, .int Mhp, .int Mpl])), (eS, .inl (cI, 12, .inl Msh)), (eP, .inl (cL, 4, .inr (.inl Mpa)))] s.heap.size = A at hD ⊢
  have hA : ∀ q : Nat, s.heap.size ≤ q → A q := fun q h => by rw [← hAe]; exact Or.inr h
  have hS : va_S A s.heap s.heap [] := va_S.rf
  have hP : va_P (dC, dI) vwCl [(y0, .inr (7, [.ref eS, .ref eP, .int Mfe, .ref eM, .ref eK, .ref eG, .ref eR, .long Mbo, .long Mro, .int Mus, .ref eN, .ref eW, .ref eV, .int Mne, .ref eA, .long Mca, .long Mga, .long Mgl, .long Mfl, .long Mst, .ref eH, .ref eX, .ref eY, .ref eZ, .int Mhp, .int Mpl])), (eS, .inl (cI, 12, .inl Msh)), (eP, .inl (cL, 4, .inr (.inl Mpa)))] s.heap := hP
  have hl := lv_entry ([.ref y0, .int p1, .long p2]) (n := 9) (Nat.le_of_ble_eq_true rfl)
  rw [lg_entry_eq]
  generalize (lg_sl ([.ref y0, .int p1, .long p2]) ++ List.replicate (9 - (lg_sl ([.ref y0, .int p1, .long p2])).length) Slot.unset).toArray = ls at hl ⊢
  have hl : lv_has ls 9 [(0, .ref y0), (1, .int p1), (2, .long p2)] := hl
  refine lv_lload_n hx hb d_Mo_comes_0 rfl (lv_at hl 2 rfl) ?_
  refine lv_lstore (lv' := [(4, .long p2), (0, .ref y0), (1, .int p1), (2, .long p2)]) hx hb d_Mo_comes_1 hl (by decide) rfl (fun ls hl => ?_)
  refine lv_iconst (v := 0) hx hb d_Mo_comes_3 (by decide) ?_
  refine lv_istore (lv' := [(6, .int 0), (4, .long p2), (0, .ref y0), (1, .int p1), (2, .long p2)]) hx hb d_Mo_comes_4 hl (by decide) rfl (fun ls hl => ?_)
  refine lv_iload hx hb d_Mo_comes_6 (lv_at hl 0 rfl) ?_
  refine lv_iconst (v := 3) hx hb d_Mo_comes_8 (by decide) ?_
  refine lv_icmp_ge (tgt := 57) hx hb d_Mo_comes_9 (by decide) (fun c9 => ?_) (fun c9 => ?_)
  · exact absurd c9 (by decide)
  refine lv_lload_n hx hb d_Mo_comes_12 rfl (lv_at hl 4 rfl) ?_
  refine lv_aload_n hx hb d_Mo_comes_13 rfl (lv_at hl 2 rfl) ?_
  refine va_get (D := (dC, dI)) (ci := 7) (v := .ref eS) (C := R_Mo) (T := F_Mo) (N := 26) hx hb hwg iu_Mo hown hK hP 0 rfl rfl 0 (by decide) (hwg _ kw_322) (fun _ h9 => h9) rfl d_Mo_comes_14 ?_
  refine lv_iconst (v := 3) hx hb d_Mo_comes_17 (by decide) ?_
  refine lv_iload_n hx hb d_Mo_comes_18 rfl (lv_at hl 3 rfl) ?_
  refine lv_imul hx hb d_Mo_comes_19 ?_
  refine lv_iload hx hb d_Mo_comes_20 (lv_at hl 0 rfl) ?_
  refine lv_iadd hx hb d_Mo_comes_22 ?_
  refine va_iald hx hb hK hP 1 0 rfl rfl (in_shm hp (by unfold vp_in; decide)) d_Mo_comes_23 ?_
  refine lv_i2l hx hb d_Mo_comes_24 rfl ?_
  refine lv_lmul hx hb d_Mo_comes_25 ?_
  refine lv_ldc2 hx hb hown (hwg _ kw_360) d_Mo_comes_26 ?_
  refine lv_ldiv hx hb d_Mo_comes_29 (by decide) ?_
  refine lv_lstore (lv' := [(7, .long ((p2 * (Int32.toInt64 (Msh (Int32.toNatClampNeg ((3 * p1) + 0))))) / 1000)), (6, .int 0), (4, .long p2), (0, .ref y0), (1, .int p1), (2, .long p2)]) hx hb d_Mo_comes_30 hl (by decide) rfl (fun ls hl => ?_)
  refine lv_aload_n hx hb d_Mo_comes_32 rfl (lv_at hl 3 rfl) ?_
  refine va_get (D := (dC, dI)) (ci := 7) (v := .ref eP) (C := R_Mo) (T := F_Mo) (N := 26) hx hb hwg iu_Mo hown hK hP 0 rfl rfl 1 (by decide) (hwg _ kw_323) (fun _ h9 => h9) rfl d_Mo_comes_33 ?_
  refine lv_iload hx hb d_Mo_comes_36 (lv_at hl 1 rfl) ?_
  refine lv_dup2_11 hx hb d_Mo_comes_38 rfl rfl ?_
  refine va_lald hx hb hK hP 2 1 rfl rfl (by unfold vp_in; decide) d_Mo_comes_39 ?_
  refine lv_lload hx hb d_Mo_comes_40 (lv_at hl 0 rfl) ?_
  refine lv_ladd hx hb d_Mo_comes_42 ?_
  refine va_last hx hb hK hP hD hS 2 1 rfl rfl (by unfold vp_in; decide) d_Mo_comes_43 (fun H43 locs hP hD hS => ?_)
  have hP : va_P (dC, dI) vwCl [(y0, .inr (7, [.ref eS, .ref eP, .int Mfe, .ref eM, .ref eK, .ref eG, .ref eR, .long Mbo, .long Mro, .int Mus, .ref eN, .ref eW, .ref eV, .int Mne, .ref eA, .long Mca, .long Mga, .long Mgl, .long Mfl, .long Mst, .ref eH, .ref eX, .ref eY, .ref eZ, .int Mhp, .int Mpl])), (eS, .inl (cI, 12, .inl Msh)), (eP, .inl (cL, 4, .inr (.inl (vp_updL Mpa 0 ((Mpa 0) + ((p2 * (Int32.toInt64 (Msh (Int32.toNatClampNeg ((3 * p1) + 0))))) / 1000))))))] H43 := hP
  have hD : va_D A [(y0, .inr (7, [.ref eS, .ref eP, .int Mfe, .ref eM, .ref eK, .ref eG, .ref eR, .long Mbo, .long Mro, .int Mus, .ref eN, .ref eW, .ref eV, .int Mne, .ref eA, .long Mca, .long Mga, .long Mgl, .long Mfl, .long Mst, .ref eH, .ref eX, .ref eY, .ref eZ, .int Mhp, .int Mpl])), (eS, .inl (cI, 12, .inl Msh)), (eP, .inl (cL, 4, .inr (.inl (vp_updL Mpa 0 ((Mpa 0) + ((p2 * (Int32.toInt64 (Msh (Int32.toNatClampNeg ((3 * p1) + 0))))) / 1000))))))] := hD
  refine lv_lload hx hb d_Mo_comes_44 (lv_at hl 2 rfl) ?_
  refine lv_lload hx hb d_Mo_comes_46 (lv_at hl 0 rfl) ?_
  refine lv_lsub hx hb d_Mo_comes_48 ?_
  refine lv_lstore (lv' := [(4, .long (p2 - ((p2 * (Int32.toInt64 (Msh (Int32.toNatClampNeg ((3 * p1) + 0))))) / 1000))), (7, .long ((p2 * (Int32.toInt64 (Msh (Int32.toNatClampNeg ((3 * p1) + 0))))) / 1000)), (6, .int 0), (0, .ref y0), (1, .int p1), (2, .long p2)]) hx hb d_Mo_comes_49 hl (by decide) rfl (fun ls hl => ?_)
  refine lv_iinc (v := 1) (lv' := [(6, .int 1), (4, .long (p2 - ((p2 * (Int32.toInt64 (Msh (Int32.toNatClampNeg ((3 * p1) + 0))))) / 1000))), (7, .long ((p2 * (Int32.toInt64 (Msh (Int32.toNatClampNeg ((3 * p1) + 0))))) / 1000)), (0, .ref y0), (1, .int p1), (2, .long p2)]) hx hb d_Mo_comes_51 hl (k := 2) rfl (by decide) (by decide) rfl (fun ls hl => ?_)
  refine lv_goto (tgt := 6) hx hb d_Mo_comes_54 (by decide) ?_
  refine lv_iload hx hb d_Mo_comes_6 (lv_at hl 0 rfl) ?_
  refine lv_iconst (v := 3) hx hb d_Mo_comes_8 (by decide) ?_
  refine lv_icmp_ge (tgt := 57) hx hb d_Mo_comes_9 (by decide) (fun c9_2 => ?_) (fun c9_2 => ?_)
  · exact absurd c9_2 (by decide)
  refine lv_lload_n hx hb d_Mo_comes_12 rfl (lv_at hl 5 rfl) ?_
  refine lv_aload_n hx hb d_Mo_comes_13 rfl (lv_at hl 3 rfl) ?_
  refine va_get (D := (dC, dI)) (ci := 7) (v := .ref eS) (C := R_Mo) (T := F_Mo) (N := 26) hx hb hwg iu_Mo hown hK hP 0 rfl rfl 0 (by decide) (hwg _ kw_322) (fun _ h9 => h9) rfl d_Mo_comes_14 ?_
  refine lv_iconst (v := 3) hx hb d_Mo_comes_17 (by decide) ?_
  refine lv_iload_n hx hb d_Mo_comes_18 rfl (lv_at hl 4 rfl) ?_
  refine lv_imul hx hb d_Mo_comes_19 ?_
  refine lv_iload hx hb d_Mo_comes_20 (lv_at hl 0 rfl) ?_
  refine lv_iadd hx hb d_Mo_comes_22 ?_
  refine va_iald hx hb hK hP 1 0 rfl rfl (in_shm hp (by unfold vp_in; decide)) d_Mo_comes_23 ?_
  refine lv_i2l hx hb d_Mo_comes_24 rfl ?_
  refine lv_lmul hx hb d_Mo_comes_25 ?_
  refine lv_ldc2 hx hb hown (hwg _ kw_360) d_Mo_comes_26 ?_
  refine lv_ldiv hx hb d_Mo_comes_29 (by decide) ?_
  refine lv_lstore (lv' := [(7, .long ((p2 * (Int32.toInt64 (Msh (Int32.toNatClampNeg ((3 * p1) + 1))))) / 1000)), (6, .int 1), (4, .long (p2 - ((p2 * (Int32.toInt64 (Msh (Int32.toNatClampNeg ((3 * p1) + 0))))) / 1000))), (0, .ref y0), (1, .int p1), (2, .long p2)]) hx hb d_Mo_comes_30 hl (by decide) rfl (fun ls hl => ?_)
  refine lv_aload_n hx hb d_Mo_comes_32 rfl (lv_at hl 3 rfl) ?_
  refine va_get (D := (dC, dI)) (ci := 7) (v := .ref eP) (C := R_Mo) (T := F_Mo) (N := 26) hx hb hwg iu_Mo hown hK hP 0 rfl rfl 1 (by decide) (hwg _ kw_323) (fun _ h9 => h9) rfl d_Mo_comes_33 ?_
  refine lv_iload hx hb d_Mo_comes_36 (lv_at hl 1 rfl) ?_
  refine lv_dup2_11 hx hb d_Mo_comes_38 rfl rfl ?_
  refine va_lald hx hb hK hP 2 1 rfl rfl (by unfold vp_in; decide) d_Mo_comes_39 ?_
  refine lv_lload hx hb d_Mo_comes_40 (lv_at hl 0 rfl) ?_
  refine lv_ladd hx hb d_Mo_comes_42 ?_
  refine va_last hx hb hK hP hD hS 2 1 rfl rfl (by unfold vp_in; decide) d_Mo_comes_43 (fun H43_2 locs hP hD hS => ?_)
  have hP : va_P (dC, dI) vwCl [(y0, .inr (7, [.ref eS, .ref eP, .int Mfe, .ref eM, .ref eK, .ref eG, .ref eR, .long Mbo, .long Mro, .int Mus, .ref eN, .ref eW, .ref eV, .int Mne, .ref eA, .long Mca, .long Mga, .long Mgl, .long Mfl, .long Mst, .ref eH, .ref eX, .ref eY, .ref eZ, .int Mhp, .int Mpl])), (eS, .inl (cI, 12, .inl Msh)), (eP, .inl (cL, 4, .inr (.inl (vp_updL (vp_updL Mpa 0 ((Mpa 0) + ((p2 * (Int32.toInt64 (Msh (Int32.toNatClampNeg ((3 * p1) + 0))))) / 1000))) 1 (((vp_updL Mpa 0 ((Mpa 0) + ((p2 * (Int32.toInt64 (Msh (Int32.toNatClampNeg ((3 * p1) + 0))))) / 1000))) 1) + ((p2 * (Int32.toInt64 (Msh (Int32.toNatClampNeg ((3 * p1) + 1))))) / 1000))))))] H43_2 := hP
  have hD : va_D A [(y0, .inr (7, [.ref eS, .ref eP, .int Mfe, .ref eM, .ref eK, .ref eG, .ref eR, .long Mbo, .long Mro, .int Mus, .ref eN, .ref eW, .ref eV, .int Mne, .ref eA, .long Mca, .long Mga, .long Mgl, .long Mfl, .long Mst, .ref eH, .ref eX, .ref eY, .ref eZ, .int Mhp, .int Mpl])), (eS, .inl (cI, 12, .inl Msh)), (eP, .inl (cL, 4, .inr (.inl (vp_updL (vp_updL Mpa 0 ((Mpa 0) + ((p2 * (Int32.toInt64 (Msh (Int32.toNatClampNeg ((3 * p1) + 0))))) / 1000))) 1 (((vp_updL Mpa 0 ((Mpa 0) + ((p2 * (Int32.toInt64 (Msh (Int32.toNatClampNeg ((3 * p1) + 0))))) / 1000))) 1) + ((p2 * (Int32.toInt64 (Msh (Int32.toNatClampNeg ((3 * p1) + 1))))) / 1000))))))] := hD
  refine lv_lload hx hb d_Mo_comes_44 (lv_at hl 2 rfl) ?_
  refine lv_lload hx hb d_Mo_comes_46 (lv_at hl 0 rfl) ?_
  refine lv_lsub hx hb d_Mo_comes_48 ?_
  refine lv_lstore (lv' := [(4, .long ((p2 - ((p2 * (Int32.toInt64 (Msh (Int32.toNatClampNeg ((3 * p1) + 0))))) / 1000)) - ((p2 * (Int32.toInt64 (Msh (Int32.toNatClampNeg ((3 * p1) + 1))))) / 1000))), (7, .long ((p2 * (Int32.toInt64 (Msh (Int32.toNatClampNeg ((3 * p1) + 1))))) / 1000)), (6, .int 1), (0, .ref y0), (1, .int p1), (2, .long p2)]) hx hb d_Mo_comes_49 hl (by decide) rfl (fun ls hl => ?_)
  refine lv_iinc (v := 2) (lv' := [(6, .int 2), (4, .long ((p2 - ((p2 * (Int32.toInt64 (Msh (Int32.toNatClampNeg ((3 * p1) + 0))))) / 1000)) - ((p2 * (Int32.toInt64 (Msh (Int32.toNatClampNeg ((3 * p1) + 1))))) / 1000))), (7, .long ((p2 * (Int32.toInt64 (Msh (Int32.toNatClampNeg ((3 * p1) + 1))))) / 1000)), (0, .ref y0), (1, .int p1), (2, .long p2)]) hx hb d_Mo_comes_51 hl (k := 2) rfl (by decide) (by decide) rfl (fun ls hl => ?_)
  refine lv_goto (tgt := 6) hx hb d_Mo_comes_54 (by decide) ?_
  refine lv_iload hx hb d_Mo_comes_6 (lv_at hl 0 rfl) ?_
  refine lv_iconst (v := 3) hx hb d_Mo_comes_8 (by decide) ?_
  refine lv_icmp_ge (tgt := 57) hx hb d_Mo_comes_9 (by decide) (fun c9_3 => ?_) (fun c9_3 => ?_)
  · exact absurd c9_3 (by decide)
  refine lv_lload_n hx hb d_Mo_comes_12 rfl (lv_at hl 5 rfl) ?_
  refine lv_aload_n hx hb d_Mo_comes_13 rfl (lv_at hl 3 rfl) ?_
  refine va_get (D := (dC, dI)) (ci := 7) (v := .ref eS) (C := R_Mo) (T := F_Mo) (N := 26) hx hb hwg iu_Mo hown hK hP 0 rfl rfl 0 (by decide) (hwg _ kw_322) (fun _ h9 => h9) rfl d_Mo_comes_14 ?_
  refine lv_iconst (v := 3) hx hb d_Mo_comes_17 (by decide) ?_
  refine lv_iload_n hx hb d_Mo_comes_18 rfl (lv_at hl 4 rfl) ?_
  refine lv_imul hx hb d_Mo_comes_19 ?_
  refine lv_iload hx hb d_Mo_comes_20 (lv_at hl 0 rfl) ?_
  refine lv_iadd hx hb d_Mo_comes_22 ?_
  refine va_iald hx hb hK hP 1 0 rfl rfl (in_shm hp (by unfold vp_in; decide)) d_Mo_comes_23 ?_
  refine lv_i2l hx hb d_Mo_comes_24 rfl ?_
  refine lv_lmul hx hb d_Mo_comes_25 ?_
  refine lv_ldc2 hx hb hown (hwg _ kw_360) d_Mo_comes_26 ?_
  refine lv_ldiv hx hb d_Mo_comes_29 (by decide) ?_
  refine lv_lstore (lv' := [(7, .long ((p2 * (Int32.toInt64 (Msh (Int32.toNatClampNeg ((3 * p1) + 2))))) / 1000)), (6, .int 2), (4, .long ((p2 - ((p2 * (Int32.toInt64 (Msh (Int32.toNatClampNeg ((3 * p1) + 0))))) / 1000)) - ((p2 * (Int32.toInt64 (Msh (Int32.toNatClampNeg ((3 * p1) + 1))))) / 1000))), (0, .ref y0), (1, .int p1), (2, .long p2)]) hx hb d_Mo_comes_30 hl (by decide) rfl (fun ls hl => ?_)
  refine lv_aload_n hx hb d_Mo_comes_32 rfl (lv_at hl 3 rfl) ?_
  refine va_get (D := (dC, dI)) (ci := 7) (v := .ref eP) (C := R_Mo) (T := F_Mo) (N := 26) hx hb hwg iu_Mo hown hK hP 0 rfl rfl 1 (by decide) (hwg _ kw_323) (fun _ h9 => h9) rfl d_Mo_comes_33 ?_
  refine lv_iload hx hb d_Mo_comes_36 (lv_at hl 1 rfl) ?_
  refine lv_dup2_11 hx hb d_Mo_comes_38 rfl rfl ?_
  refine va_lald hx hb hK hP 2 1 rfl rfl (by unfold vp_in; decide) d_Mo_comes_39 ?_
  refine lv_lload hx hb d_Mo_comes_40 (lv_at hl 0 rfl) ?_
  refine lv_ladd hx hb d_Mo_comes_42 ?_
  refine va_last hx hb hK hP hD hS 2 1 rfl rfl (by unfold vp_in; decide) d_Mo_comes_43 (fun H43_3 locs hP hD hS => ?_)
  have hP : va_P (dC, dI) vwCl [(y0, .inr (7, [.ref eS, .ref eP, .int Mfe, .ref eM, .ref eK, .ref eG, .ref eR, .long Mbo, .long Mro, .int Mus, .ref eN, .ref eW, .ref eV, .int Mne, .ref eA, .long Mca, .long Mga, .long Mgl, .long Mfl, .long Mst, .ref eH, .ref eX, .ref eY, .ref eZ, .int Mhp, .int Mpl])), (eS, .inl (cI, 12, .inl Msh)), (eP, .inl (cL, 4, .inr (.inl (vp_updL (vp_updL (vp_updL Mpa 0 ((Mpa 0) + ((p2 * (Int32.toInt64 (Msh (Int32.toNatClampNeg ((3 * p1) + 0))))) / 1000))) 1 (((vp_updL Mpa 0 ((Mpa 0) + ((p2 * (Int32.toInt64 (Msh (Int32.toNatClampNeg ((3 * p1) + 0))))) / 1000))) 1) + ((p2 * (Int32.toInt64 (Msh (Int32.toNatClampNeg ((3 * p1) + 1))))) / 1000))) 2 (((vp_updL (vp_updL Mpa 0 ((Mpa 0) + ((p2 * (Int32.toInt64 (Msh (Int32.toNatClampNeg ((3 * p1) + 0))))) / 1000))) 1 (((vp_updL Mpa 0 ((Mpa 0) + ((p2 * (Int32.toInt64 (Msh (Int32.toNatClampNeg ((3 * p1) + 0))))) / 1000))) 1) + ((p2 * (Int32.toInt64 (Msh (Int32.toNatClampNeg ((3 * p1) + 1))))) / 1000))) 2) + ((p2 * (Int32.toInt64 (Msh (Int32.toNatClampNeg ((3 * p1) + 2))))) / 1000))))))] H43_3 := hP
  have hD : va_D A [(y0, .inr (7, [.ref eS, .ref eP, .int Mfe, .ref eM, .ref eK, .ref eG, .ref eR, .long Mbo, .long Mro, .int Mus, .ref eN, .ref eW, .ref eV, .int Mne, .ref eA, .long Mca, .long Mga, .long Mgl, .long Mfl, .long Mst, .ref eH, .ref eX, .ref eY, .ref eZ, .int Mhp, .int Mpl])), (eS, .inl (cI, 12, .inl Msh)), (eP, .inl (cL, 4, .inr (.inl (vp_updL (vp_updL (vp_updL Mpa 0 ((Mpa 0) + ((p2 * (Int32.toInt64 (Msh (Int32.toNatClampNeg ((3 * p1) + 0))))) / 1000))) 1 (((vp_updL Mpa 0 ((Mpa 0) + ((p2 * (Int32.toInt64 (Msh (Int32.toNatClampNeg ((3 * p1) + 0))))) / 1000))) 1) + ((p2 * (Int32.toInt64 (Msh (Int32.toNatClampNeg ((3 * p1) + 1))))) / 1000))) 2 (((vp_updL (vp_updL Mpa 0 ((Mpa 0) + ((p2 * (Int32.toInt64 (Msh (Int32.toNatClampNeg ((3 * p1) + 0))))) / 1000))) 1 (((vp_updL Mpa 0 ((Mpa 0) + ((p2 * (Int32.toInt64 (Msh (Int32.toNatClampNeg ((3 * p1) + 0))))) / 1000))) 1) + ((p2 * (Int32.toInt64 (Msh (Int32.toNatClampNeg ((3 * p1) + 1))))) / 1000))) 2) + ((p2 * (Int32.toInt64 (Msh (Int32.toNatClampNeg ((3 * p1) + 2))))) / 1000))))))] := hD
  refine lv_lload hx hb d_Mo_comes_44 (lv_at hl 2 rfl) ?_
  refine lv_lload hx hb d_Mo_comes_46 (lv_at hl 0 rfl) ?_
  refine lv_lsub hx hb d_Mo_comes_48 ?_
  refine lv_lstore (lv' := [(4, .long (((p2 - ((p2 * (Int32.toInt64 (Msh (Int32.toNatClampNeg ((3 * p1) + 0))))) / 1000)) - ((p2 * (Int32.toInt64 (Msh (Int32.toNatClampNeg ((3 * p1) + 1))))) / 1000)) - ((p2 * (Int32.toInt64 (Msh (Int32.toNatClampNeg ((3 * p1) + 2))))) / 1000))), (7, .long ((p2 * (Int32.toInt64 (Msh (Int32.toNatClampNeg ((3 * p1) + 2))))) / 1000)), (6, .int 2), (0, .ref y0), (1, .int p1), (2, .long p2)]) hx hb d_Mo_comes_49 hl (by decide) rfl (fun ls hl => ?_)
  refine lv_iinc (v := 3) (lv' := [(6, .int 3), (4, .long (((p2 - ((p2 * (Int32.toInt64 (Msh (Int32.toNatClampNeg ((3 * p1) + 0))))) / 1000)) - ((p2 * (Int32.toInt64 (Msh (Int32.toNatClampNeg ((3 * p1) + 1))))) / 1000)) - ((p2 * (Int32.toInt64 (Msh (Int32.toNatClampNeg ((3 * p1) + 2))))) / 1000))), (7, .long ((p2 * (Int32.toInt64 (Msh (Int32.toNatClampNeg ((3 * p1) + 2))))) / 1000)), (0, .ref y0), (1, .int p1), (2, .long p2)]) hx hb d_Mo_comes_51 hl (k := 2) rfl (by decide) (by decide) rfl (fun ls hl => ?_)
  refine lv_goto (tgt := 6) hx hb d_Mo_comes_54 (by decide) ?_
  refine lv_iload hx hb d_Mo_comes_6 (lv_at hl 0 rfl) ?_
  refine lv_iconst (v := 3) hx hb d_Mo_comes_8 (by decide) ?_
  refine lv_icmp_ge (tgt := 57) hx hb d_Mo_comes_9 (by decide) (fun c9_4 => ?_) (fun c9_4 => ?_)
  rotate_left
  · exact absurd c9_4 (by decide)
  refine lv_aload_n hx hb d_Mo_comes_57 rfl (lv_at hl 3 rfl) ?_
  refine va_get (D := (dC, dI)) (ci := 7) (v := .ref eP) (C := R_Mo) (T := F_Mo) (N := 26) hx hb hwg iu_Mo hown hK hP 0 rfl rfl 1 (by decide) (hwg _ kw_323) (fun _ h9 => h9) rfl d_Mo_comes_58 ?_
  refine lv_iconst (v := 3) hx hb d_Mo_comes_61 (by decide) ?_
  refine lv_dup2_11 hx hb d_Mo_comes_62 rfl rfl ?_
  refine va_lald hx hb hK hP 2 1 rfl rfl (by unfold vp_in; decide) d_Mo_comes_63 ?_
  refine lv_lload hx hb d_Mo_comes_64 (lv_at hl 1 rfl) ?_
  refine lv_ladd hx hb d_Mo_comes_66 ?_
  refine va_last hx hb hK hP hD hS 2 1 rfl rfl (by unfold vp_in; decide) d_Mo_comes_67 (fun H67 locs hP hD hS => ?_)
  have hP : va_P (dC, dI) vwCl [(y0, .inr (7, [.ref eS, .ref eP, .int Mfe, .ref eM, .ref eK, .ref eG, .ref eR, .long Mbo, .long Mro, .int Mus, .ref eN, .ref eW, .ref eV, .int Mne, .ref eA, .long Mca, .long Mga, .long Mgl, .long Mfl, .long Mst, .ref eH, .ref eX, .ref eY, .ref eZ, .int Mhp, .int Mpl])), (eS, .inl (cI, 12, .inl Msh)), (eP, .inl (cL, 4, .inr (.inl (vp_updL (vp_updL (vp_updL (vp_updL Mpa 0 ((Mpa 0) + ((p2 * (Int32.toInt64 (Msh (Int32.toNatClampNeg ((3 * p1) + 0))))) / 1000))) 1 (((vp_updL Mpa 0 ((Mpa 0) + ((p2 * (Int32.toInt64 (Msh (Int32.toNatClampNeg ((3 * p1) + 0))))) / 1000))) 1) + ((p2 * (Int32.toInt64 (Msh (Int32.toNatClampNeg ((3 * p1) + 1))))) / 1000))) 2 (((vp_updL (vp_updL Mpa 0 ((Mpa 0) + ((p2 * (Int32.toInt64 (Msh (Int32.toNatClampNeg ((3 * p1) + 0))))) / 1000))) 1 (((vp_updL Mpa 0 ((Mpa 0) + ((p2 * (Int32.toInt64 (Msh (Int32.toNatClampNeg ((3 * p1) + 0))))) / 1000))) 1) + ((p2 * (Int32.toInt64 (Msh (Int32.toNatClampNeg ((3 * p1) + 1))))) / 1000))) 2) + ((p2 * (Int32.toInt64 (Msh (Int32.toNatClampNeg ((3 * p1) + 2))))) / 1000))) 3 (((vp_updL (vp_updL (vp_updL Mpa 0 ((Mpa 0) + ((p2 * (Int32.toInt64 (Msh (Int32.toNatClampNeg ((3 * p1) + 0))))) / 1000))) 1 (((vp_updL Mpa 0 ((Mpa 0) + ((p2 * (Int32.toInt64 (Msh (Int32.toNatClampNeg ((3 * p1) + 0))))) / 1000))) 1) + ((p2 * (Int32.toInt64 (Msh (Int32.toNatClampNeg ((3 * p1) + 1))))) / 1000))) 2 (((vp_updL (vp_updL Mpa 0 ((Mpa 0) + ((p2 * (Int32.toInt64 (Msh (Int32.toNatClampNeg ((3 * p1) + 0))))) / 1000))) 1 (((vp_updL Mpa 0 ((Mpa 0) + ((p2 * (Int32.toInt64 (Msh (Int32.toNatClampNeg ((3 * p1) + 0))))) / 1000))) 1) + ((p2 * (Int32.toInt64 (Msh (Int32.toNatClampNeg ((3 * p1) + 1))))) / 1000))) 2) + ((p2 * (Int32.toInt64 (Msh (Int32.toNatClampNeg ((3 * p1) + 2))))) / 1000))) 3) + (((p2 - ((p2 * (Int32.toInt64 (Msh (Int32.toNatClampNeg ((3 * p1) + 0))))) / 1000)) - ((p2 * (Int32.toInt64 (Msh (Int32.toNatClampNeg ((3 * p1) + 1))))) / 1000)) - ((p2 * (Int32.toInt64 (Msh (Int32.toNatClampNeg ((3 * p1) + 2))))) / 1000)))))))] H67 := hP
  have hD : va_D A [(y0, .inr (7, [.ref eS, .ref eP, .int Mfe, .ref eM, .ref eK, .ref eG, .ref eR, .long Mbo, .long Mro, .int Mus, .ref eN, .ref eW, .ref eV, .int Mne, .ref eA, .long Mca, .long Mga, .long Mgl, .long Mfl, .long Mst, .ref eH, .ref eX, .ref eY, .ref eZ, .int Mhp, .int Mpl])), (eS, .inl (cI, 12, .inl Msh)), (eP, .inl (cL, 4, .inr (.inl (vp_updL (vp_updL (vp_updL (vp_updL Mpa 0 ((Mpa 0) + ((p2 * (Int32.toInt64 (Msh (Int32.toNatClampNeg ((3 * p1) + 0))))) / 1000))) 1 (((vp_updL Mpa 0 ((Mpa 0) + ((p2 * (Int32.toInt64 (Msh (Int32.toNatClampNeg ((3 * p1) + 0))))) / 1000))) 1) + ((p2 * (Int32.toInt64 (Msh (Int32.toNatClampNeg ((3 * p1) + 1))))) / 1000))) 2 (((vp_updL (vp_updL Mpa 0 ((Mpa 0) + ((p2 * (Int32.toInt64 (Msh (Int32.toNatClampNeg ((3 * p1) + 0))))) / 1000))) 1 (((vp_updL Mpa 0 ((Mpa 0) + ((p2 * (Int32.toInt64 (Msh (Int32.toNatClampNeg ((3 * p1) + 0))))) / 1000))) 1) + ((p2 * (Int32.toInt64 (Msh (Int32.toNatClampNeg ((3 * p1) + 1))))) / 1000))) 2) + ((p2 * (Int32.toInt64 (Msh (Int32.toNatClampNeg ((3 * p1) + 2))))) / 1000))) 3 (((vp_updL (vp_updL (vp_updL Mpa 0 ((Mpa 0) + ((p2 * (Int32.toInt64 (Msh (Int32.toNatClampNeg ((3 * p1) + 0))))) / 1000))) 1 (((vp_updL Mpa 0 ((Mpa 0) + ((p2 * (Int32.toInt64 (Msh (Int32.toNatClampNeg ((3 * p1) + 0))))) / 1000))) 1) + ((p2 * (Int32.toInt64 (Msh (Int32.toNatClampNeg ((3 * p1) + 1))))) / 1000))) 2 (((vp_updL (vp_updL Mpa 0 ((Mpa 0) + ((p2 * (Int32.toInt64 (Msh (Int32.toNatClampNeg ((3 * p1) + 0))))) / 1000))) 1 (((vp_updL Mpa 0 ((Mpa 0) + ((p2 * (Int32.toInt64 (Msh (Int32.toNatClampNeg ((3 * p1) + 0))))) / 1000))) 1) + ((p2 * (Int32.toInt64 (Msh (Int32.toNatClampNeg ((3 * p1) + 1))))) / 1000))) 2) + ((p2 * (Int32.toInt64 (Msh (Int32.toNatClampNeg ((3 * p1) + 2))))) / 1000))) 3) + (((p2 - ((p2 * (Int32.toInt64 (Msh (Int32.toNatClampNeg ((3 * p1) + 0))))) / 1000)) - ((p2 * (Int32.toInt64 (Msh (Int32.toNatClampNeg ((3 * p1) + 1))))) / 1000)) - ((p2 * (Int32.toInt64 (Msh (Int32.toNatClampNeg ((3 * p1) + 2))))) / 1000)))))))] := hD
  refine lv_aload_n hx hb d_Mo_comes_68 rfl (lv_at hl 3 rfl) ?_
  refine lv_dup hx hb d_Mo_comes_69 rfl ?_
  refine va_get (D := (dC, dI)) (ci := 7) (v := .long Mca) (C := R_Mo) (T := F_Mo) (N := 26) hx hb hwg iu_Mo hown hK hP 0 rfl rfl 15 (by decide) (hwg _ kw_337) (fun _ h9 => h9) rfl d_Mo_comes_70 ?_
  refine lv_lload_n hx hb d_Mo_comes_73 rfl (lv_at hl 5 rfl) ?_
  refine lv_ladd hx hb d_Mo_comes_74 ?_
  refine va_put (D := (dC, dI)) (ci := 7) (v := .long (Mca + p2)) (ty := .long) (C := R_Mo) (T := F_Mo) (N := 26) hx hb hwg iu_Mo t_Mo t_Mo_ok n_Mo hown hK hP hD hS 0 rfl rfl 15 (by decide) (hwg _ kw_337) (fun _ h9 => h9) rfl (by decide +kernel) rfl rfl (Nat.le_of_ble_eq_true rfl) d_Mo_comes_75 (fun H75 locs hP hD hS => ?_)
  have hP : va_P (dC, dI) vwCl [(y0, .inr (7, [.ref eS, .ref eP, .int Mfe, .ref eM, .ref eK, .ref eG, .ref eR, .long Mbo, .long Mro, .int Mus, .ref eN, .ref eW, .ref eV, .int Mne, .ref eA, .long (Mca + p2), .long Mga, .long Mgl, .long Mfl, .long Mst, .ref eH, .ref eX, .ref eY, .ref eZ, .int Mhp, .int Mpl])), (eS, .inl (cI, 12, .inl Msh)), (eP, .inl (cL, 4, .inr (.inl (vp_updL (vp_updL (vp_updL (vp_updL Mpa 0 ((Mpa 0) + ((p2 * (Int32.toInt64 (Msh (Int32.toNatClampNeg ((3 * p1) + 0))))) / 1000))) 1 (((vp_updL Mpa 0 ((Mpa 0) + ((p2 * (Int32.toInt64 (Msh (Int32.toNatClampNeg ((3 * p1) + 0))))) / 1000))) 1) + ((p2 * (Int32.toInt64 (Msh (Int32.toNatClampNeg ((3 * p1) + 1))))) / 1000))) 2 (((vp_updL (vp_updL Mpa 0 ((Mpa 0) + ((p2 * (Int32.toInt64 (Msh (Int32.toNatClampNeg ((3 * p1) + 0))))) / 1000))) 1 (((vp_updL Mpa 0 ((Mpa 0) + ((p2 * (Int32.toInt64 (Msh (Int32.toNatClampNeg ((3 * p1) + 0))))) / 1000))) 1) + ((p2 * (Int32.toInt64 (Msh (Int32.toNatClampNeg ((3 * p1) + 1))))) / 1000))) 2) + ((p2 * (Int32.toInt64 (Msh (Int32.toNatClampNeg ((3 * p1) + 2))))) / 1000))) 3 (((vp_updL (vp_updL (vp_updL Mpa 0 ((Mpa 0) + ((p2 * (Int32.toInt64 (Msh (Int32.toNatClampNeg ((3 * p1) + 0))))) / 1000))) 1 (((vp_updL Mpa 0 ((Mpa 0) + ((p2 * (Int32.toInt64 (Msh (Int32.toNatClampNeg ((3 * p1) + 0))))) / 1000))) 1) + ((p2 * (Int32.toInt64 (Msh (Int32.toNatClampNeg ((3 * p1) + 1))))) / 1000))) 2 (((vp_updL (vp_updL Mpa 0 ((Mpa 0) + ((p2 * (Int32.toInt64 (Msh (Int32.toNatClampNeg ((3 * p1) + 0))))) / 1000))) 1 (((vp_updL Mpa 0 ((Mpa 0) + ((p2 * (Int32.toInt64 (Msh (Int32.toNatClampNeg ((3 * p1) + 0))))) / 1000))) 1) + ((p2 * (Int32.toInt64 (Msh (Int32.toNatClampNeg ((3 * p1) + 1))))) / 1000))) 2) + ((p2 * (Int32.toInt64 (Msh (Int32.toNatClampNeg ((3 * p1) + 2))))) / 1000))) 3) + (((p2 - ((p2 * (Int32.toInt64 (Msh (Int32.toNatClampNeg ((3 * p1) + 0))))) / 1000)) - ((p2 * (Int32.toInt64 (Msh (Int32.toNatClampNeg ((3 * p1) + 1))))) / 1000)) - ((p2 * (Int32.toInt64 (Msh (Int32.toNatClampNeg ((3 * p1) + 2))))) / 1000)))))))] H75 := hP
  have hD : va_D A [(y0, .inr (7, [.ref eS, .ref eP, .int Mfe, .ref eM, .ref eK, .ref eG, .ref eR, .long Mbo, .long Mro, .int Mus, .ref eN, .ref eW, .ref eV, .int Mne, .ref eA, .long (Mca + p2), .long Mga, .long Mgl, .long Mfl, .long Mst, .ref eH, .ref eX, .ref eY, .ref eZ, .int Mhp, .int Mpl])), (eS, .inl (cI, 12, .inl Msh)), (eP, .inl (cL, 4, .inr (.inl (vp_updL (vp_updL (vp_updL (vp_updL Mpa 0 ((Mpa 0) + ((p2 * (Int32.toInt64 (Msh (Int32.toNatClampNeg ((3 * p1) + 0))))) / 1000))) 1 (((vp_updL Mpa 0 ((Mpa 0) + ((p2 * (Int32.toInt64 (Msh (Int32.toNatClampNeg ((3 * p1) + 0))))) / 1000))) 1) + ((p2 * (Int32.toInt64 (Msh (Int32.toNatClampNeg ((3 * p1) + 1))))) / 1000))) 2 (((vp_updL (vp_updL Mpa 0 ((Mpa 0) + ((p2 * (Int32.toInt64 (Msh (Int32.toNatClampNeg ((3 * p1) + 0))))) / 1000))) 1 (((vp_updL Mpa 0 ((Mpa 0) + ((p2 * (Int32.toInt64 (Msh (Int32.toNatClampNeg ((3 * p1) + 0))))) / 1000))) 1) + ((p2 * (Int32.toInt64 (Msh (Int32.toNatClampNeg ((3 * p1) + 1))))) / 1000))) 2) + ((p2 * (Int32.toInt64 (Msh (Int32.toNatClampNeg ((3 * p1) + 2))))) / 1000))) 3 (((vp_updL (vp_updL (vp_updL Mpa 0 ((Mpa 0) + ((p2 * (Int32.toInt64 (Msh (Int32.toNatClampNeg ((3 * p1) + 0))))) / 1000))) 1 (((vp_updL Mpa 0 ((Mpa 0) + ((p2 * (Int32.toInt64 (Msh (Int32.toNatClampNeg ((3 * p1) + 0))))) / 1000))) 1) + ((p2 * (Int32.toInt64 (Msh (Int32.toNatClampNeg ((3 * p1) + 1))))) / 1000))) 2 (((vp_updL (vp_updL Mpa 0 ((Mpa 0) + ((p2 * (Int32.toInt64 (Msh (Int32.toNatClampNeg ((3 * p1) + 0))))) / 1000))) 1 (((vp_updL Mpa 0 ((Mpa 0) + ((p2 * (Int32.toInt64 (Msh (Int32.toNatClampNeg ((3 * p1) + 0))))) / 1000))) 1) + ((p2 * (Int32.toInt64 (Msh (Int32.toNatClampNeg ((3 * p1) + 1))))) / 1000))) 2) + ((p2 * (Int32.toInt64 (Msh (Int32.toNatClampNeg ((3 * p1) + 2))))) / 1000))) 3) + (((p2 - ((p2 * (Int32.toInt64 (Msh (Int32.toNatClampNeg ((3 * p1) + 0))))) / 1000)) - ((p2 * (Int32.toInt64 (Msh (Int32.toNatClampNeg ((3 * p1) + 1))))) / 1000)) - ((p2 * (Int32.toInt64 (Msh (Int32.toNatClampNeg ((3 * p1) + 2))))) / 1000)))))))] := hD
  have hP9 := hP.sub (ws' := [(y0, .inr (7, [.ref eS, .ref eP, .int Mfe, .ref eM, .ref eK, .ref eG, .ref eR, .long Mbo, .long Mro, .int Mus, .ref eN, .ref eW, .ref eV, .int Mne, .ref eA, .long (Mca + p2), .long Mga, .long Mgl, .long Mfl, .long Mst, .ref eH, .ref eX, .ref eY, .ref eZ, .int Mhp, .int Mpl])), (eS, .inl (cI, 12, .inl Msh)), (eP, .inl (cL, 4, .inr (.inl (vp_updL (vp_updL (vp_updL (vp_updL Mpa 0 ((Mpa 0) + ((p2 * (Int32.toInt64 (Msh (Int32.toNatClampNeg ((3 * p1) + 0))))) / 1000))) 1 (((vp_updL Mpa 0 ((Mpa 0) + ((p2 * (Int32.toInt64 (Msh (Int32.toNatClampNeg ((3 * p1) + 0))))) / 1000))) 1) + ((p2 * (Int32.toInt64 (Msh (Int32.toNatClampNeg ((3 * p1) + 1))))) / 1000))) 2 (((vp_updL (vp_updL Mpa 0 ((Mpa 0) + ((p2 * (Int32.toInt64 (Msh (Int32.toNatClampNeg ((3 * p1) + 0))))) / 1000))) 1 (((vp_updL Mpa 0 ((Mpa 0) + ((p2 * (Int32.toInt64 (Msh (Int32.toNatClampNeg ((3 * p1) + 0))))) / 1000))) 1) + ((p2 * (Int32.toInt64 (Msh (Int32.toNatClampNeg ((3 * p1) + 1))))) / 1000))) 2) + ((p2 * (Int32.toInt64 (Msh (Int32.toNatClampNeg ((3 * p1) + 2))))) / 1000))) 3 (((vp_updL (vp_updL (vp_updL Mpa 0 ((Mpa 0) + ((p2 * (Int32.toInt64 (Msh (Int32.toNatClampNeg ((3 * p1) + 0))))) / 1000))) 1 (((vp_updL Mpa 0 ((Mpa 0) + ((p2 * (Int32.toInt64 (Msh (Int32.toNatClampNeg ((3 * p1) + 0))))) / 1000))) 1) + ((p2 * (Int32.toInt64 (Msh (Int32.toNatClampNeg ((3 * p1) + 1))))) / 1000))) 2 (((vp_updL (vp_updL Mpa 0 ((Mpa 0) + ((p2 * (Int32.toInt64 (Msh (Int32.toNatClampNeg ((3 * p1) + 0))))) / 1000))) 1 (((vp_updL Mpa 0 ((Mpa 0) + ((p2 * (Int32.toInt64 (Msh (Int32.toNatClampNeg ((3 * p1) + 0))))) / 1000))) 1) + ((p2 * (Int32.toInt64 (Msh (Int32.toNatClampNeg ((3 * p1) + 1))))) / 1000))) 2) + ((p2 * (Int32.toInt64 (Msh (Int32.toNatClampNeg ((3 * p1) + 2))))) / 1000))) 3) + (((p2 - ((p2 * (Int32.toInt64 (Msh (Int32.toNatClampNeg ((3 * p1) + 0))))) / 1000)) - ((p2 * (Int32.toInt64 (Msh (Int32.toNatClampNeg ((3 * p1) + 1))))) / 1000)) - ((p2 * (Int32.toInt64 (Msh (Int32.toNatClampNeg ((3 * p1) + 2))))) / 1000)))))))]) [0, 1, 2] rfl
  have hD9 := hD.sub (ws' := [(y0, .inr (7, [.ref eS, .ref eP, .int Mfe, .ref eM, .ref eK, .ref eG, .ref eR, .long Mbo, .long Mro, .int Mus, .ref eN, .ref eW, .ref eV, .int Mne, .ref eA, .long (Mca + p2), .long Mga, .long Mgl, .long Mfl, .long Mst, .ref eH, .ref eX, .ref eY, .ref eZ, .int Mhp, .int Mpl])), (eS, .inl (cI, 12, .inl Msh)), (eP, .inl (cL, 4, .inr (.inl (vp_updL (vp_updL (vp_updL (vp_updL Mpa 0 ((Mpa 0) + ((p2 * (Int32.toInt64 (Msh (Int32.toNatClampNeg ((3 * p1) + 0))))) / 1000))) 1 (((vp_updL Mpa 0 ((Mpa 0) + ((p2 * (Int32.toInt64 (Msh (Int32.toNatClampNeg ((3 * p1) + 0))))) / 1000))) 1) + ((p2 * (Int32.toInt64 (Msh (Int32.toNatClampNeg ((3 * p1) + 1))))) / 1000))) 2 (((vp_updL (vp_updL Mpa 0 ((Mpa 0) + ((p2 * (Int32.toInt64 (Msh (Int32.toNatClampNeg ((3 * p1) + 0))))) / 1000))) 1 (((vp_updL Mpa 0 ((Mpa 0) + ((p2 * (Int32.toInt64 (Msh (Int32.toNatClampNeg ((3 * p1) + 0))))) / 1000))) 1) + ((p2 * (Int32.toInt64 (Msh (Int32.toNatClampNeg ((3 * p1) + 1))))) / 1000))) 2) + ((p2 * (Int32.toInt64 (Msh (Int32.toNatClampNeg ((3 * p1) + 2))))) / 1000))) 3 (((vp_updL (vp_updL (vp_updL Mpa 0 ((Mpa 0) + ((p2 * (Int32.toInt64 (Msh (Int32.toNatClampNeg ((3 * p1) + 0))))) / 1000))) 1 (((vp_updL Mpa 0 ((Mpa 0) + ((p2 * (Int32.toInt64 (Msh (Int32.toNatClampNeg ((3 * p1) + 0))))) / 1000))) 1) + ((p2 * (Int32.toInt64 (Msh (Int32.toNatClampNeg ((3 * p1) + 1))))) / 1000))) 2 (((vp_updL (vp_updL Mpa 0 ((Mpa 0) + ((p2 * (Int32.toInt64 (Msh (Int32.toNatClampNeg ((3 * p1) + 0))))) / 1000))) 1 (((vp_updL Mpa 0 ((Mpa 0) + ((p2 * (Int32.toInt64 (Msh (Int32.toNatClampNeg ((3 * p1) + 0))))) / 1000))) 1) + ((p2 * (Int32.toInt64 (Msh (Int32.toNatClampNeg ((3 * p1) + 1))))) / 1000))) 2) + ((p2 * (Int32.toInt64 (Msh (Int32.toNatClampNeg ((3 * p1) + 2))))) / 1000))) 3) + (((p2 - ((p2 * (Int32.toInt64 (Msh (Int32.toNatClampNeg ((3 * p1) + 0))))) / 1000)) - ((p2 * (Int32.toInt64 (Msh (Int32.toNatClampNeg ((3 * p1) + 1))))) / 1000)) - ((p2 * (Int32.toInt64 (Msh (Int32.toNatClampNeg ((3 * p1) + 2))))) / 1000)))))))]) [0, 1, 2] (by decide) rfl
  exact W.vret hx hb hr (fun t ht hW => ⟨⟨(Mca + p2, vp_updL (vp_updL (vp_updL (vp_updL Mpa 0 ((Mpa 0) + ((p2 * (Int32.toInt64 (Msh (Int32.toNatClampNeg ((3 * p1) + 0))))) / 1000))) 1 (((vp_updL Mpa 0 ((Mpa 0) + ((p2 * (Int32.toInt64 (Msh (Int32.toNatClampNeg ((3 * p1) + 0))))) / 1000))) 1) + ((p2 * (Int32.toInt64 (Msh (Int32.toNatClampNeg ((3 * p1) + 1))))) / 1000))) 2 (((vp_updL (vp_updL Mpa 0 ((Mpa 0) + ((p2 * (Int32.toInt64 (Msh (Int32.toNatClampNeg ((3 * p1) + 0))))) / 1000))) 1 (((vp_updL Mpa 0 ((Mpa 0) + ((p2 * (Int32.toInt64 (Msh (Int32.toNatClampNeg ((3 * p1) + 0))))) / 1000))) 1) + ((p2 * (Int32.toInt64 (Msh (Int32.toNatClampNeg ((3 * p1) + 1))))) / 1000))) 2) + ((p2 * (Int32.toInt64 (Msh (Int32.toNatClampNeg ((3 * p1) + 2))))) / 1000))) 3 (((vp_updL (vp_updL (vp_updL Mpa 0 ((Mpa 0) + ((p2 * (Int32.toInt64 (Msh (Int32.toNatClampNeg ((3 * p1) + 0))))) / 1000))) 1 (((vp_updL Mpa 0 ((Mpa 0) + ((p2 * (Int32.toInt64 (Msh (Int32.toNatClampNeg ((3 * p1) + 0))))) / 1000))) 1) + ((p2 * (Int32.toInt64 (Msh (Int32.toNatClampNeg ((3 * p1) + 1))))) / 1000))) 2 (((vp_updL (vp_updL Mpa 0 ((Mpa 0) + ((p2 * (Int32.toInt64 (Msh (Int32.toNatClampNeg ((3 * p1) + 0))))) / 1000))) 1 (((vp_updL Mpa 0 ((Mpa 0) + ((p2 * (Int32.toInt64 (Msh (Int32.toNatClampNeg ((3 * p1) + 0))))) / 1000))) 1) + ((p2 * (Int32.toInt64 (Msh (Int32.toNatClampNeg ((3 * p1) + 1))))) / 1000))) 2) + ((p2 * (Int32.toInt64 (Msh (Int32.toNatClampNeg ((3 * p1) + 2))))) / 1000))) 3) + (((p2 - ((p2 * (Int32.toInt64 (Msh (Int32.toNatClampNeg ((3 * p1) + 0))))) / 1000)) - ((p2 * (Int32.toInt64 (Msh (Int32.toNatClampNeg ((3 * p1) + 1))))) / 1000)) - ((p2 * (Int32.toInt64 (Msh (Int32.toNatClampNeg ((3 * p1) + 2))))) / 1000)))), rfl, by simp only [f_Mo_comes], by rw [ht]; exact hP9, hD9⟩, hS.F ht⟩) hS.2.2 d_Mo_comes_78
def f_Mo_steps (Mpa : Nat → Int64) (Mrt : Nat → Int32) (p1 : Int64) (p2 : Int32) : Int64 := ((((Mpa (Int32.toNatClampNeg p2)) * (Int32.toInt64 (Mrt (Int32.toNatClampNeg p2)))) / 1000000) * p1) / 1000
abbrev rm_Mo_steps : Room := { frames := 0, cells := 0, slots := 0, locals := 0 }
set_option maxHeartbeats 4000000 in
set_option maxRecDepth 100000 in
theorem c_Mo_steps (l : Launch) (dC : Nat → ClassId) (dI : Nat → Nat → Nat) (cI cL cZ : ClassId) (y0 eS eP eM eK eG eR eN eW eV eA eH eX eY eZ : Nat) (sz : Nat) (Mfe : Int32) (Mbo : Int64) (Mro : Int64) (Mus : Int32) (Mne : Int32) (Mca : Int64) (Mga : Int64) (Mgl : Int64) (Mfl : Int64) (Mst : Int64) (Mhp : Int32) (Mpl : Int32) (Mpa : Nat → Int64) (Mrt : Nat → Int32) (p1 : Int64) (p2 : Int32) (hp : vp_in p2 3) : Met l y_Mo_steps w_Mo_steps rm_Mo_steps (va_Pc [.ref y0, .long p1, .int p2] (c_pre dC dI cI cL cZ [(y0, .inr (7, [.ref eS, .ref eP, .int Mfe, .ref eM, .ref eK, .ref eG, .ref eR, .long Mbo, .long Mro, .int Mus, .ref eN, .ref eW, .ref eV, .int Mne, .ref eA, .long Mca, .long Mga, .long Mgl, .long Mfl, .long Mst, .ref eH, .ref eX, .ref eY, .ref eZ, .int Mhp, .int Mpl])), (eP, .inl (cL, 4, .inr (.inl Mpa))), (eR, .inl (cI, 3, .inl Mrt))] sz)) (va_Ql (fun (r : Int64) (_ : Unit) => f_Mo_steps Mpa Mrt p1 p2 = r) (c_post dC dI (fun (u : Unit) => [(y0, .inr (7, [.ref eS, .ref eP, .int Mfe, .ref eM, .ref eK, .ref eG, .ref eR, .long Mbo, .long Mro, .int Mus, .ref eN, .ref eW, .ref eV, .int Mne, .ref eA, .long Mca, .long Mga, .long Mgl, .long Mfl, .long Mst, .ref eH, .ref eX, .ref eY, .ref eZ, .int Mhp, .int Mpl])), (eP, .inl (cL, 4, .inr (.inl Mpa))), (eR, .inl (cI, 3, .inl Mrt))]) (va_A [(y0, .inr (7, [.ref eS, .ref eP, .int Mfe, .ref eM, .ref eK, .ref eG, .ref eR, .long Mbo, .long Mro, .int Mus, .ref eN, .ref eW, .ref eV, .int Mne, .ref eA, .long Mca, .long Mga, .long Mgl, .long Mfl, .long Mst, .ref eH, .ref eX, .ref eY, .ref eZ, .int Mhp, .int Mpl])), (eP, .inl (cL, 4, .inr (.inl Mpa))), (eR, .inl (cI, 3, .inl Mrt))] sz)) (va_A [(y0, .inr (7, [.ref eS, .ref eP, .int Mfe, .ref eM, .ref eK, .ref eG, .ref eR, .long Mbo, .long Mro, .int Mus, .ref eN, .ref eW, .ref eV, .int Mne, .ref eA, .long Mca, .long Mga, .long Mgl, .long Mfl, .long Mst, .ref eH, .ref eX, .ref eY, .ref eZ, .int Mhp, .int Mpl])), (eP, .inl (cL, 4, .inr (.inl Mpa))), (eR, .inl (cI, 3, .inl Mrt))] sz)) 0 0 (va_A [(y0, .inr (7, [.ref eS, .ref eP, .int Mfe, .ref eM, .ref eK, .ref eG, .ref eR, .long Mbo, .long Mro, .int Mus, .ref eN, .ref eW, .ref eV, .int Mne, .ref eA, .long Mca, .long Mga, .long Mgl, .long Mfl, .long Mst, .ref eH, .ref eX, .ref eY, .ref eZ, .int Mhp, .int Mpl])), (eP, .inl (cL, 4, .inr (.inl Mpa))), (eR, .inl (cI, 3, .inl Mrt))] sz) := by
  refine Met.ofW (cc := b_Mo_steps) (maxL := 4) (ret := (some .long)) (by decide) rfl ?_
  intro p e s m args below meth c s₁ B hml hv
  obtain ⟨rfl, hsz, hP, hK, hN, hD0⟩ := hv
  have hx := B.exec
  have hb := B.bytes
  have hr := B.returns
  have hts := atoms_spec (ws := w_Mo_steps) B.pre
  have hown : s.vm.findClass R_Mo = some m.cls := findClass_of_methodNamed B.named
  have hlocks := B.notSynchronized
  have hwg : ∀ w ∈ wg, w.before ([.ref y0, .long p1, .int p2] : List Value).toArray s = true := fun w h => hts w (List.mem_cons_of_mem _ h)
  subst hsz
  have hD := hD0.self (sz := s.heap.size)
  generalize hAe : va_A [(y0, .inr (7, [.ref eS, .ref eP, .int Mfe, .ref eM, .ref eK, .ref eG, .ref eR, .long Mbo, .long Mro, .int Mus, .ref eN, .ref eW, .ref eV, .int Mne, .ref eA, .long Mca, .long Mga, .long Mgl, .long Mfl, .long Mst, .ref eH, .ref eX, .ref eY, .ref eZ, .int Mhp, .int Mpl])), (eP, .inl (cL, 4, .inr (.inl Mpa))), (eR, .inl (cI, 3, .inl Mrt))] s.heap.size = A at hD ⊢
  have hA : ∀ q : Nat, s.heap.size ≤ q → A q := fun q h => by rw [← hAe]; exact Or.inr h
  have hS : va_S A s.heap s.heap [] := va_S.rf
  have hP : va_P (dC, dI) vwCl [(y0, .inr (7, [.ref eS, .ref eP, .int Mfe, .ref eM, .ref eK, .ref eG, .ref eR, .long Mbo, .long Mro, .int Mus, .ref eN, .ref eW, .ref eV, .int Mne, .ref eA, .long Mca, .long Mga, .long Mgl, .long Mfl, .long Mst, .ref eH, .ref eX, .ref eY, .ref eZ, .int Mhp, .int Mpl])), (eP, .inl (cL, 4, .inr (.inl Mpa))), (eR, .inl (cI, 3, .inl Mrt))] s.heap := hP
  have hl := lv_entry ([.ref y0, .long p1, .int p2]) (n := 4) (Nat.le_of_ble_eq_true rfl)
  rw [lg_entry_eq]
  generalize (lg_sl ([.ref y0, .long p1, .int p2]) ++ List.replicate (4 - (lg_sl ([.ref y0, .long p1, .int p2])).length) Slot.unset).toArray = ls at hl ⊢
  have hl : lv_has ls 4 [(0, .ref y0), (1, .long p1), (3, .int p2)] := hl
  refine lv_aload_n hx hb d_Mo_steps_0 rfl (lv_at hl 0 rfl) ?_
  refine va_get (D := (dC, dI)) (ci := 7) (v := .ref eP) (C := R_Mo) (T := F_Mo) (N := 26) hx hb hwg iu_Mo hown hK hP 0 rfl rfl 1 (by decide) (hwg _ kw_323) (fun _ h9 => h9) rfl d_Mo_steps_1 ?_
  refine lv_iload_n hx hb d_Mo_steps_4 rfl (lv_at hl 2 rfl) ?_
  refine va_lald hx hb hK hP 1 1 rfl rfl (in_up hp) d_Mo_steps_5 ?_
  refine lv_aload_n hx hb d_Mo_steps_6 rfl (lv_at hl 0 rfl) ?_
  refine va_get (D := (dC, dI)) (ci := 7) (v := .ref eR) (C := R_Mo) (T := F_Mo) (N := 26) hx hb hwg iu_Mo hown hK hP 0 rfl rfl 6 (by decide) (hwg _ kw_328) (fun _ h9 => h9) rfl d_Mo_steps_7 ?_
  refine lv_iload_n hx hb d_Mo_steps_10 rfl (lv_at hl 2 rfl) ?_
  refine va_iald hx hb hK hP 2 0 rfl rfl hp d_Mo_steps_11 ?_
  refine lv_i2l hx hb d_Mo_steps_12 rfl ?_
  refine lv_lmul hx hb d_Mo_steps_13 ?_
  refine lv_ldc2 hx hb hown (hwg _ kw_366) d_Mo_steps_14 ?_
  refine lv_ldiv hx hb d_Mo_steps_17 (by decide) ?_
  refine lv_lload_n hx hb d_Mo_steps_18 rfl (lv_at hl 1 rfl) ?_
  refine lv_lmul hx hb d_Mo_steps_19 ?_
  refine lv_ldc2 hx hb hown (hwg _ kw_360) d_Mo_steps_20 ?_
  refine lv_ldiv hx hb d_Mo_steps_23 (by decide) ?_
  have hP9 := hP.sub (ws' := [(y0, .inr (7, [.ref eS, .ref eP, .int Mfe, .ref eM, .ref eK, .ref eG, .ref eR, .long Mbo, .long Mro, .int Mus, .ref eN, .ref eW, .ref eV, .int Mne, .ref eA, .long Mca, .long Mga, .long Mgl, .long Mfl, .long Mst, .ref eH, .ref eX, .ref eY, .ref eZ, .int Mhp, .int Mpl])), (eP, .inl (cL, 4, .inr (.inl Mpa))), (eR, .inl (cI, 3, .inl Mrt))]) [0, 1, 2] rfl
  have hD9 := hD.sub (ws' := [(y0, .inr (7, [.ref eS, .ref eP, .int Mfe, .ref eM, .ref eK, .ref eG, .ref eR, .long Mbo, .long Mro, .int Mus, .ref eN, .ref eW, .ref eV, .int Mne, .ref eA, .long Mca, .long Mga, .long Mgl, .long Mfl, .long Mst, .ref eH, .ref eX, .ref eY, .ref eZ, .int Mhp, .int Mpl])), (eP, .inl (cL, 4, .inr (.inl Mpa))), (eR, .inl (cI, 3, .inl Mrt))]) [0, 1, 2] (by decide) rfl
  exact W.lret (v := ((((Mpa (Int32.toNatClampNeg p2)) * (Int32.toInt64 (Mrt (Int32.toNatClampNeg p2)))) / 1000000) * p1) / 1000) hx hb hr (fun t ht hW => ⟨⟨((((Mpa (Int32.toNatClampNeg p2)) * (Int32.toInt64 (Mrt (Int32.toNatClampNeg p2)))) / 1000000) * p1) / 1000, (), rfl, by simp only [f_Mo_steps], by rw [ht]; exact hP9, hD9⟩, hS.F ht⟩) hS.2.2 d_Mo_steps_24
def f_Mo_at (Mpa : Nat → Int64) (p1 : Int32) : Int64 := if p1 < 0 then ((-1)) else (if 4 ≤ p1 then ((-1)) else (Mpa (Int32.toNatClampNeg p1)))
abbrev rm_Mo_at : Room := { frames := 0, cells := 0, slots := 0, locals := 0 }
set_option maxHeartbeats 4000000 in
set_option maxRecDepth 100000 in
theorem c_Mo_at (l : Launch) (dC : Nat → ClassId) (dI : Nat → Nat → Nat) (cI cL cZ : ClassId) (y0 eS eP eM eK eG eR eN eW eV eA eH eX eY eZ : Nat) (sz : Nat) (Mfe : Int32) (Mbo : Int64) (Mro : Int64) (Mus : Int32) (Mne : Int32) (Mca : Int64) (Mga : Int64) (Mgl : Int64) (Mfl : Int64) (Mst : Int64) (Mhp : Int32) (Mpl : Int32) (Mpa : Nat → Int64) (p1 : Int32) : Met l y_Mo_at w_Mo_at rm_Mo_at (va_Pc [.ref y0, .int p1] (c_pre dC dI cI cL cZ [(y0, .inr (7, [.ref eS, .ref eP, .int Mfe, .ref eM, .ref eK, .ref eG, .ref eR, .long Mbo, .long Mro, .int Mus, .ref eN, .ref eW, .ref eV, .int Mne, .ref eA, .long Mca, .long Mga, .long Mgl, .long Mfl, .long Mst, .ref eH, .ref eX, .ref eY, .ref eZ, .int Mhp, .int Mpl])), (eP, .inl (cL, 4, .inr (.inl Mpa)))] sz)) (va_Ql (fun (r : Int64) (_ : Unit) => f_Mo_at Mpa p1 = r) (c_post dC dI (fun (u : Unit) => [(y0, .inr (7, [.ref eS, .ref eP, .int Mfe, .ref eM, .ref eK, .ref eG, .ref eR, .long Mbo, .long Mro, .int Mus, .ref eN, .ref eW, .ref eV, .int Mne, .ref eA, .long Mca, .long Mga, .long Mgl, .long Mfl, .long Mst, .ref eH, .ref eX, .ref eY, .ref eZ, .int Mhp, .int Mpl])), (eP, .inl (cL, 4, .inr (.inl Mpa)))]) (va_A [(y0, .inr (7, [.ref eS, .ref eP, .int Mfe, .ref eM, .ref eK, .ref eG, .ref eR, .long Mbo, .long Mro, .int Mus, .ref eN, .ref eW, .ref eV, .int Mne, .ref eA, .long Mca, .long Mga, .long Mgl, .long Mfl, .long Mst, .ref eH, .ref eX, .ref eY, .ref eZ, .int Mhp, .int Mpl])), (eP, .inl (cL, 4, .inr (.inl Mpa)))] sz)) (va_A [(y0, .inr (7, [.ref eS, .ref eP, .int Mfe, .ref eM, .ref eK, .ref eG, .ref eR, .long Mbo, .long Mro, .int Mus, .ref eN, .ref eW, .ref eV, .int Mne, .ref eA, .long Mca, .long Mga, .long Mgl, .long Mfl, .long Mst, .ref eH, .ref eX, .ref eY, .ref eZ, .int Mhp, .int Mpl])), (eP, .inl (cL, 4, .inr (.inl Mpa)))] sz)) 0 0 (va_A [(y0, .inr (7, [.ref eS, .ref eP, .int Mfe, .ref eM, .ref eK, .ref eG, .ref eR, .long Mbo, .long Mro, .int Mus, .ref eN, .ref eW, .ref eV, .int Mne, .ref eA, .long Mca, .long Mga, .long Mgl, .long Mfl, .long Mst, .ref eH, .ref eX, .ref eY, .ref eZ, .int Mhp, .int Mpl])), (eP, .inl (cL, 4, .inr (.inl Mpa)))] sz) := by
  refine Met.ofW (cc := b_Mo_at) (maxL := 2) (ret := (some .long)) (by decide) rfl ?_
  intro p e s m args below meth c s₁ B hml hv
  obtain ⟨rfl, hsz, hP, hK, hN, hD0⟩ := hv
  have hx := B.exec
  have hb := B.bytes
  have hr := B.returns
  have hts := atoms_spec (ws := w_Mo_at) B.pre
  have hown : s.vm.findClass R_Mo = some m.cls := findClass_of_methodNamed B.named
  have hlocks := B.notSynchronized
  have hwg : ∀ w ∈ wg, w.before ([.ref y0, .int p1] : List Value).toArray s = true := fun w h => hts w (List.mem_cons_of_mem _ h)
  subst hsz
  have hD := hD0.self (sz := s.heap.size)
  generalize hAe : va_A [(y0, .inr (7, [.ref eS, .ref eP, .int Mfe, .ref eM, .ref eK, .ref eG, .ref eR, .long Mbo, .long Mro, .int Mus, .ref eN, .ref eW, .ref eV, .int Mne, .ref eA, .long Mca, .long Mga, .long Mgl, .long Mfl, .long Mst, .ref eH, .ref eX, .ref eY, .ref eZ, .int Mhp, .int Mpl])), (eP, .inl (cL, 4, .inr (.inl Mpa)))] s.heap.size = A at hD ⊢
  have hA : ∀ q : Nat, s.heap.size ≤ q → A q := fun q h => by rw [← hAe]; exact Or.inr h
  have hS : va_S A s.heap s.heap [] := va_S.rf
  have hP : va_P (dC, dI) vwCl [(y0, .inr (7, [.ref eS, .ref eP, .int Mfe, .ref eM, .ref eK, .ref eG, .ref eR, .long Mbo, .long Mro, .int Mus, .ref eN, .ref eW, .ref eV, .int Mne, .ref eA, .long Mca, .long Mga, .long Mgl, .long Mfl, .long Mst, .ref eH, .ref eX, .ref eY, .ref eZ, .int Mhp, .int Mpl])), (eP, .inl (cL, 4, .inr (.inl Mpa)))] s.heap := hP
  have hl := lv_entry ([.ref y0, .int p1]) (n := 2) (Nat.le_of_ble_eq_true rfl)
  rw [lg_entry_eq]
  generalize (lg_sl ([.ref y0, .int p1]) ++ List.replicate (2 - (lg_sl ([.ref y0, .int p1])).length) Slot.unset).toArray = ls at hl ⊢
  have hl : lv_has ls 2 [(0, .ref y0), (1, .int p1)] := hl
  refine lv_iload_n hx hb d_Mo_at_0 rfl (lv_at hl 1 rfl) ?_
  refine lv_if_lt (tgt := 18) hx hb d_Mo_at_1 (by decide) (fun (c1 : p1 < 0) => ?_) (fun (c1 : ¬ (p1 < 0)) => ?_)
  · refine lv_ldc2 hx hb hown (hwg _ kw_407) d_Mo_at_18 ?_
    have hP9 := hP.sub (ws' := [(y0, .inr (7, [.ref eS, .ref eP, .int Mfe, .ref eM, .ref eK, .ref eG, .ref eR, .long Mbo, .long Mro, .int Mus, .ref eN, .ref eW, .ref eV, .int Mne, .ref eA, .long Mca, .long Mga, .long Mgl, .long Mfl, .long Mst, .ref eH, .ref eX, .ref eY, .ref eZ, .int Mhp, .int Mpl])), (eP, .inl (cL, 4, .inr (.inl Mpa)))]) [0, 1] rfl
    have hD9 := hD.sub (ws' := [(y0, .inr (7, [.ref eS, .ref eP, .int Mfe, .ref eM, .ref eK, .ref eG, .ref eR, .long Mbo, .long Mro, .int Mus, .ref eN, .ref eW, .ref eV, .int Mne, .ref eA, .long Mca, .long Mga, .long Mgl, .long Mfl, .long Mst, .ref eH, .ref eX, .ref eY, .ref eZ, .int Mhp, .int Mpl])), (eP, .inl (cL, 4, .inr (.inl Mpa)))]) [0, 1] (by decide) rfl
    exact W.lret (v := (-1)) hx hb hr (fun t ht hW => ⟨⟨(-1), (), rfl, by simp only [f_Mo_at, if_pos c1], by rw [ht]; exact hP9, hD9⟩, hS.F ht⟩) hS.2.2 d_Mo_at_21
  · refine lv_iload_n hx hb d_Mo_at_4 rfl (lv_at hl 1 rfl) ?_
    refine lv_iconst (v := 4) hx hb d_Mo_at_5 (by decide) ?_
    refine lv_icmp_ge (tgt := 18) hx hb d_Mo_at_6 (by decide) (fun (c6 : 4 ≤ p1) => ?_) (fun (c6 : ¬ (4 ≤ p1)) => ?_)
    · refine lv_ldc2 hx hb hown (hwg _ kw_407) d_Mo_at_18 ?_
      have hP9 := hP.sub (ws' := [(y0, .inr (7, [.ref eS, .ref eP, .int Mfe, .ref eM, .ref eK, .ref eG, .ref eR, .long Mbo, .long Mro, .int Mus, .ref eN, .ref eW, .ref eV, .int Mne, .ref eA, .long Mca, .long Mga, .long Mgl, .long Mfl, .long Mst, .ref eH, .ref eX, .ref eY, .ref eZ, .int Mhp, .int Mpl])), (eP, .inl (cL, 4, .inr (.inl Mpa)))]) [0, 1] rfl
      have hD9 := hD.sub (ws' := [(y0, .inr (7, [.ref eS, .ref eP, .int Mfe, .ref eM, .ref eK, .ref eG, .ref eR, .long Mbo, .long Mro, .int Mus, .ref eN, .ref eW, .ref eV, .int Mne, .ref eA, .long Mca, .long Mga, .long Mgl, .long Mfl, .long Mst, .ref eH, .ref eX, .ref eY, .ref eZ, .int Mhp, .int Mpl])), (eP, .inl (cL, 4, .inr (.inl Mpa)))]) [0, 1] (by decide) rfl
      exact W.lret (v := (-1)) hx hb hr (fun t ht hW => ⟨⟨(-1), (), rfl, by simp only [f_Mo_at, if_neg c1, if_pos c6], by rw [ht]; exact hP9, hD9⟩, hS.F ht⟩) hS.2.2 d_Mo_at_21
    · refine lv_aload_n hx hb d_Mo_at_9 rfl (lv_at hl 0 rfl) ?_
      refine va_get (D := (dC, dI)) (ci := 7) (v := .ref eP) (C := R_Mo) (T := F_Mo) (N := 26) hx hb hwg iu_Mo hown hK hP 0 rfl rfl 1 (by decide) (hwg _ kw_323) (fun _ h9 => h9) rfl d_Mo_at_10 ?_
      refine lv_iload_n hx hb d_Mo_at_13 rfl (lv_at hl 1 rfl) ?_
      refine va_lald hx hb hK hP 1 1 rfl rfl (in_at c1 c6) d_Mo_at_14 ?_
      refine lv_goto (tgt := 21) hx hb d_Mo_at_15 (by decide) ?_
      have hP9 := hP.sub (ws' := [(y0, .inr (7, [.ref eS, .ref eP, .int Mfe, .ref eM, .ref eK, .ref eG, .ref eR, .long Mbo, .long Mro, .int Mus, .ref eN, .ref eW, .ref eV, .int Mne, .ref eA, .long Mca, .long Mga, .long Mgl, .long Mfl, .long Mst, .ref eH, .ref eX, .ref eY, .ref eZ, .int Mhp, .int Mpl])), (eP, .inl (cL, 4, .inr (.inl Mpa)))]) [0, 1] rfl
      have hD9 := hD.sub (ws' := [(y0, .inr (7, [.ref eS, .ref eP, .int Mfe, .ref eM, .ref eK, .ref eG, .ref eR, .long Mbo, .long Mro, .int Mus, .ref eN, .ref eW, .ref eV, .int Mne, .ref eA, .long Mca, .long Mga, .long Mgl, .long Mfl, .long Mst, .ref eH, .ref eX, .ref eY, .ref eZ, .int Mhp, .int Mpl])), (eP, .inl (cL, 4, .inr (.inl Mpa)))]) [0, 1] (by decide) rfl
      exact W.lret (v := Mpa (Int32.toNatClampNeg p1)) hx hb hr (fun t ht hW => ⟨⟨Mpa (Int32.toNatClampNeg p1), (), rfl, by simp only [f_Mo_at, if_neg c1, if_neg c6], by rw [ht]; exact hP9, hD9⟩, hS.F ht⟩) hS.2.2 d_Mo_at_21
def f_Mo_given (Mus : Int32) (Mgi : Nat → Int64) (p1 : Int32) : Int64 := if p1 < 0 then ((-1)) else (if Mus ≤ p1 then ((-1)) else (Mgi (Int32.toNatClampNeg p1)))
abbrev rm_Mo_given : Room := { frames := 0, cells := 0, slots := 0, locals := 0 }
set_option maxHeartbeats 4000000 in
set_option maxRecDepth 100000 in
theorem c_Mo_given (l : Launch) (dC : Nat → ClassId) (dI : Nat → Nat → Nat) (cI cL cZ : ClassId) (y0 eS eP eM eK eG eR eN eW eV eA eH eX eY eZ : Nat) (sz : Nat) (Mfe : Int32) (Mbo : Int64) (Mro : Int64) (Mus : Int32) (Mne : Int32) (Mca : Int64) (Mga : Int64) (Mgl : Int64) (Mfl : Int64) (Mst : Int64) (Mhp : Int32) (Mpl : Int32) (Mgi : Nat → Int64) (p1 : Int32) (hus : vp_in Mus 5) : Met l y_Mo_given w_Mo_given rm_Mo_given (va_Pc [.ref y0, .int p1] (c_pre dC dI cI cL cZ [(y0, .inr (7, [.ref eS, .ref eP, .int Mfe, .ref eM, .ref eK, .ref eG, .ref eR, .long Mbo, .long Mro, .int Mus, .ref eN, .ref eW, .ref eV, .int Mne, .ref eA, .long Mca, .long Mga, .long Mgl, .long Mfl, .long Mst, .ref eH, .ref eX, .ref eY, .ref eZ, .int Mhp, .int Mpl])), (eV, .inl (cL, 4, .inr (.inl Mgi)))] sz)) (va_Ql (fun (r : Int64) (_ : Unit) => f_Mo_given Mus Mgi p1 = r) (c_post dC dI (fun (u : Unit) => [(y0, .inr (7, [.ref eS, .ref eP, .int Mfe, .ref eM, .ref eK, .ref eG, .ref eR, .long Mbo, .long Mro, .int Mus, .ref eN, .ref eW, .ref eV, .int Mne, .ref eA, .long Mca, .long Mga, .long Mgl, .long Mfl, .long Mst, .ref eH, .ref eX, .ref eY, .ref eZ, .int Mhp, .int Mpl])), (eV, .inl (cL, 4, .inr (.inl Mgi)))]) (va_A [(y0, .inr (7, [.ref eS, .ref eP, .int Mfe, .ref eM, .ref eK, .ref eG, .ref eR, .long Mbo, .long Mro, .int Mus, .ref eN, .ref eW, .ref eV, .int Mne, .ref eA, .long Mca, .long Mga, .long Mgl, .long Mfl, .long Mst, .ref eH, .ref eX, .ref eY, .ref eZ, .int Mhp, .int Mpl])), (eV, .inl (cL, 4, .inr (.inl Mgi)))] sz)) (va_A [(y0, .inr (7, [.ref eS, .ref eP, .int Mfe, .ref eM, .ref eK, .ref eG, .ref eR, .long Mbo, .long Mro, .int Mus, .ref eN, .ref eW, .ref eV, .int Mne, .ref eA, .long Mca, .long Mga, .long Mgl, .long Mfl, .long Mst, .ref eH, .ref eX, .ref eY, .ref eZ, .int Mhp, .int Mpl])), (eV, .inl (cL, 4, .inr (.inl Mgi)))] sz)) 0 0 (va_A [(y0, .inr (7, [.ref eS, .ref eP, .int Mfe, .ref eM, .ref eK, .ref eG, .ref eR, .long Mbo, .long Mro, .int Mus, .ref eN, .ref eW, .ref eV, .int Mne, .ref eA, .long Mca, .long Mga, .long Mgl, .long Mfl, .long Mst, .ref eH, .ref eX, .ref eY, .ref eZ, .int Mhp, .int Mpl])), (eV, .inl (cL, 4, .inr (.inl Mgi)))] sz) := by
  refine Met.ofW (cc := b_Mo_given) (maxL := 2) (ret := (some .long)) (by decide) rfl ?_
  intro p e s m args below meth c s₁ B hml hv
  obtain ⟨rfl, hsz, hP, hK, hN, hD0⟩ := hv
  have hx := B.exec
  have hb := B.bytes
  have hr := B.returns
  have hts := atoms_spec (ws := w_Mo_given) B.pre
  have hown : s.vm.findClass R_Mo = some m.cls := findClass_of_methodNamed B.named
  have hlocks := B.notSynchronized
  have hwg : ∀ w ∈ wg, w.before ([.ref y0, .int p1] : List Value).toArray s = true := fun w h => hts w (List.mem_cons_of_mem _ h)
  subst hsz
  have hD := hD0.self (sz := s.heap.size)
  generalize hAe : va_A [(y0, .inr (7, [.ref eS, .ref eP, .int Mfe, .ref eM, .ref eK, .ref eG, .ref eR, .long Mbo, .long Mro, .int Mus, .ref eN, .ref eW, .ref eV, .int Mne, .ref eA, .long Mca, .long Mga, .long Mgl, .long Mfl, .long Mst, .ref eH, .ref eX, .ref eY, .ref eZ, .int Mhp, .int Mpl])), (eV, .inl (cL, 4, .inr (.inl Mgi)))] s.heap.size = A at hD ⊢
  have hA : ∀ q : Nat, s.heap.size ≤ q → A q := fun q h => by rw [← hAe]; exact Or.inr h
  have hS : va_S A s.heap s.heap [] := va_S.rf
  have hP : va_P (dC, dI) vwCl [(y0, .inr (7, [.ref eS, .ref eP, .int Mfe, .ref eM, .ref eK, .ref eG, .ref eR, .long Mbo, .long Mro, .int Mus, .ref eN, .ref eW, .ref eV, .int Mne, .ref eA, .long Mca, .long Mga, .long Mgl, .long Mfl, .long Mst, .ref eH, .ref eX, .ref eY, .ref eZ, .int Mhp, .int Mpl])), (eV, .inl (cL, 4, .inr (.inl Mgi)))] s.heap := hP
  have hl := lv_entry ([.ref y0, .int p1]) (n := 2) (Nat.le_of_ble_eq_true rfl)
  rw [lg_entry_eq]
  generalize (lg_sl ([.ref y0, .int p1]) ++ List.replicate (2 - (lg_sl ([.ref y0, .int p1])).length) Slot.unset).toArray = ls at hl ⊢
  have hl : lv_has ls 2 [(0, .ref y0), (1, .int p1)] := hl
  refine lv_iload_n hx hb d_Mo_given_0 rfl (lv_at hl 1 rfl) ?_
  refine lv_if_lt (tgt := 21) hx hb d_Mo_given_1 (by decide) (fun (c1 : p1 < 0) => ?_) (fun (c1 : ¬ (p1 < 0)) => ?_)
  · refine lv_ldc2 hx hb hown (hwg _ kw_407) d_Mo_given_21 ?_
    have hP9 := hP.sub (ws' := [(y0, .inr (7, [.ref eS, .ref eP, .int Mfe, .ref eM, .ref eK, .ref eG, .ref eR, .long Mbo, .long Mro, .int Mus, .ref eN, .ref eW, .ref eV, .int Mne, .ref eA, .long Mca, .long Mga, .long Mgl, .long Mfl, .long Mst, .ref eH, .ref eX, .ref eY, .ref eZ, .int Mhp, .int Mpl])), (eV, .inl (cL, 4, .inr (.inl Mgi)))]) [0, 1] rfl
    have hD9 := hD.sub (ws' := [(y0, .inr (7, [.ref eS, .ref eP, .int Mfe, .ref eM, .ref eK, .ref eG, .ref eR, .long Mbo, .long Mro, .int Mus, .ref eN, .ref eW, .ref eV, .int Mne, .ref eA, .long Mca, .long Mga, .long Mgl, .long Mfl, .long Mst, .ref eH, .ref eX, .ref eY, .ref eZ, .int Mhp, .int Mpl])), (eV, .inl (cL, 4, .inr (.inl Mgi)))]) [0, 1] (by decide) rfl
    exact W.lret (v := (-1)) hx hb hr (fun t ht hW => ⟨⟨(-1), (), rfl, by simp only [f_Mo_given, if_pos c1], by rw [ht]; exact hP9, hD9⟩, hS.F ht⟩) hS.2.2 d_Mo_given_24
  · refine lv_iload_n hx hb d_Mo_given_4 rfl (lv_at hl 1 rfl) ?_
    refine lv_aload_n hx hb d_Mo_given_5 rfl (lv_at hl 0 rfl) ?_
    refine va_get (D := (dC, dI)) (ci := 7) (v := .int Mus) (C := R_Mo) (T := F_Mo) (N := 26) hx hb hwg iu_Mo hown hK hP 0 rfl rfl 9 (by decide) (hwg _ kw_331) (fun _ h9 => h9) rfl d_Mo_given_6 ?_
    refine lv_icmp_ge (tgt := 21) hx hb d_Mo_given_9 (by decide) (fun (c9 : Mus ≤ p1) => ?_) (fun (c9 : ¬ (Mus ≤ p1)) => ?_)
    · refine lv_ldc2 hx hb hown (hwg _ kw_407) d_Mo_given_21 ?_
      have hP9 := hP.sub (ws' := [(y0, .inr (7, [.ref eS, .ref eP, .int Mfe, .ref eM, .ref eK, .ref eG, .ref eR, .long Mbo, .long Mro, .int Mus, .ref eN, .ref eW, .ref eV, .int Mne, .ref eA, .long Mca, .long Mga, .long Mgl, .long Mfl, .long Mst, .ref eH, .ref eX, .ref eY, .ref eZ, .int Mhp, .int Mpl])), (eV, .inl (cL, 4, .inr (.inl Mgi)))]) [0, 1] rfl
      have hD9 := hD.sub (ws' := [(y0, .inr (7, [.ref eS, .ref eP, .int Mfe, .ref eM, .ref eK, .ref eG, .ref eR, .long Mbo, .long Mro, .int Mus, .ref eN, .ref eW, .ref eV, .int Mne, .ref eA, .long Mca, .long Mga, .long Mgl, .long Mfl, .long Mst, .ref eH, .ref eX, .ref eY, .ref eZ, .int Mhp, .int Mpl])), (eV, .inl (cL, 4, .inr (.inl Mgi)))]) [0, 1] (by decide) rfl
      exact W.lret (v := (-1)) hx hb hr (fun t ht hW => ⟨⟨(-1), (), rfl, by simp only [f_Mo_given, if_neg c1, if_pos c9], by rw [ht]; exact hP9, hD9⟩, hS.F ht⟩) hS.2.2 d_Mo_given_24
    · refine lv_aload_n hx hb d_Mo_given_12 rfl (lv_at hl 0 rfl) ?_
      refine va_get (D := (dC, dI)) (ci := 7) (v := .ref eV) (C := R_Mo) (T := F_Mo) (N := 26) hx hb hwg iu_Mo hown hK hP 0 rfl rfl 12 (by decide) (hwg _ kw_334) (fun _ h9 => h9) rfl d_Mo_given_13 ?_
      refine lv_iload_n hx hb d_Mo_given_16 rfl (lv_at hl 1 rfl) ?_
      refine va_lald hx hb hK hP 1 1 rfl rfl (in_gv hus c1 c9) d_Mo_given_17 ?_
      refine lv_goto (tgt := 24) hx hb d_Mo_given_18 (by decide) ?_
      have hP9 := hP.sub (ws' := [(y0, .inr (7, [.ref eS, .ref eP, .int Mfe, .ref eM, .ref eK, .ref eG, .ref eR, .long Mbo, .long Mro, .int Mus, .ref eN, .ref eW, .ref eV, .int Mne, .ref eA, .long Mca, .long Mga, .long Mgl, .long Mfl, .long Mst, .ref eH, .ref eX, .ref eY, .ref eZ, .int Mhp, .int Mpl])), (eV, .inl (cL, 4, .inr (.inl Mgi)))]) [0, 1] rfl
      have hD9 := hD.sub (ws' := [(y0, .inr (7, [.ref eS, .ref eP, .int Mfe, .ref eM, .ref eK, .ref eG, .ref eR, .long Mbo, .long Mro, .int Mus, .ref eN, .ref eW, .ref eV, .int Mne, .ref eA, .long Mca, .long Mga, .long Mgl, .long Mfl, .long Mst, .ref eH, .ref eX, .ref eY, .ref eZ, .int Mhp, .int Mpl])), (eV, .inl (cL, 4, .inr (.inl Mgi)))]) [0, 1] (by decide) rfl
      exact W.lret (v := Mgi (Int32.toNatClampNeg p1)) hx hb hr (fun t ht hW => ⟨⟨Mgi (Int32.toNatClampNeg p1), (), rfl, by simp only [f_Mo_given, if_neg c1, if_neg c9], by rw [ht]; exact hP9, hD9⟩, hS.F ht⟩) hS.2.2 d_Mo_given_24
def f_Mo_gone (Mca : Int64) (Mga : Int64) (Mgl : Int64) (Mfl : Int64) (Mst : Int64) (p1 : Int32) : Int64 := if p1 = 0 then (Mca) else if p1 = 1 then (Mga) else if p1 = 2 then (Mgl) else if p1 = 3 then (Mfl) else if p1 = 4 then (Mst) else ((-1))
abbrev rm_Mo_gone : Room := { frames := 0, cells := 0, slots := 0, locals := 0 }
set_option maxHeartbeats 4000000 in
set_option maxRecDepth 100000 in
theorem c_Mo_gone (l : Launch) (dC : Nat → ClassId) (dI : Nat → Nat → Nat) (cI cL cZ : ClassId) (y0 eS eP eM eK eG eR eN eW eV eA eH eX eY eZ : Nat) (sz : Nat) (Mfe : Int32) (Mbo : Int64) (Mro : Int64) (Mus : Int32) (Mne : Int32) (Mca : Int64) (Mga : Int64) (Mgl : Int64) (Mfl : Int64) (Mst : Int64) (Mhp : Int32) (Mpl : Int32) (p1 : Int32) : Met l y_Mo_gone w_Mo_gone rm_Mo_gone (va_Pc [.ref y0, .int p1] (c_pre dC dI cI cL cZ [(y0, .inr (7, [.ref eS, .ref eP, .int Mfe, .ref eM, .ref eK, .ref eG, .ref eR, .long Mbo, .long Mro, .int Mus, .ref eN, .ref eW, .ref eV, .int Mne, .ref eA, .long Mca, .long Mga, .long Mgl, .long Mfl, .long Mst, .ref eH, .ref eX, .ref eY, .ref eZ, .int Mhp, .int Mpl]))] sz)) (va_Ql (fun (r : Int64) (_ : Unit) => f_Mo_gone Mca Mga Mgl Mfl Mst p1 = r) (c_post dC dI (fun (u : Unit) => [(y0, .inr (7, [.ref eS, .ref eP, .int Mfe, .ref eM, .ref eK, .ref eG, .ref eR, .long Mbo, .long Mro, .int Mus, .ref eN, .ref eW, .ref eV, .int Mne, .ref eA, .long Mca, .long Mga, .long Mgl, .long Mfl, .long Mst, .ref eH, .ref eX, .ref eY, .ref eZ, .int Mhp, .int Mpl]))]) (va_A [(y0, .inr (7, [.ref eS, .ref eP, .int Mfe, .ref eM, .ref eK, .ref eG, .ref eR, .long Mbo, .long Mro, .int Mus, .ref eN, .ref eW, .ref eV, .int Mne, .ref eA, .long Mca, .long Mga, .long Mgl, .long Mfl, .long Mst, .ref eH, .ref eX, .ref eY, .ref eZ, .int Mhp, .int Mpl]))] sz)) (va_A [(y0, .inr (7, [.ref eS, .ref eP, .int Mfe, .ref eM, .ref eK, .ref eG, .ref eR, .long Mbo, .long Mro, .int Mus, .ref eN, .ref eW, .ref eV, .int Mne, .ref eA, .long Mca, .long Mga, .long Mgl, .long Mfl, .long Mst, .ref eH, .ref eX, .ref eY, .ref eZ, .int Mhp, .int Mpl]))] sz)) 0 0 (va_A [(y0, .inr (7, [.ref eS, .ref eP, .int Mfe, .ref eM, .ref eK, .ref eG, .ref eR, .long Mbo, .long Mro, .int Mus, .ref eN, .ref eW, .ref eV, .int Mne, .ref eA, .long Mca, .long Mga, .long Mgl, .long Mfl, .long Mst, .ref eH, .ref eX, .ref eY, .ref eZ, .int Mhp, .int Mpl]))] sz) := by
  refine Met.ofW (cc := b_Mo_gone) (maxL := 2) (ret := (some .long)) (by decide) rfl ?_
  intro p e s m args below meth c s₁ B hml hv
  obtain ⟨rfl, hsz, hP, hK, hN, hD0⟩ := hv
  have hx := B.exec
  have hb := B.bytes
  have hr := B.returns
  have hts := atoms_spec (ws := w_Mo_gone) B.pre
  have hown : s.vm.findClass R_Mo = some m.cls := findClass_of_methodNamed B.named
  have hlocks := B.notSynchronized
  have hwg : ∀ w ∈ wg, w.before ([.ref y0, .int p1] : List Value).toArray s = true := fun w h => hts w (List.mem_cons_of_mem _ h)
  subst hsz
  have hD := hD0.self (sz := s.heap.size)
  generalize hAe : va_A [(y0, .inr (7, [.ref eS, .ref eP, .int Mfe, .ref eM, .ref eK, .ref eG, .ref eR, .long Mbo, .long Mro, .int Mus, .ref eN, .ref eW, .ref eV, .int Mne, .ref eA, .long Mca, .long Mga, .long Mgl, .long Mfl, .long Mst, .ref eH, .ref eX, .ref eY, .ref eZ, .int Mhp, .int Mpl]))] s.heap.size = A at hD ⊢
  have hA : ∀ q : Nat, s.heap.size ≤ q → A q := fun q h => by rw [← hAe]; exact Or.inr h
  have hS : va_S A s.heap s.heap [] := va_S.rf
  have hP : va_P (dC, dI) vwCl [(y0, .inr (7, [.ref eS, .ref eP, .int Mfe, .ref eM, .ref eK, .ref eG, .ref eR, .long Mbo, .long Mro, .int Mus, .ref eN, .ref eW, .ref eV, .int Mne, .ref eA, .long Mca, .long Mga, .long Mgl, .long Mfl, .long Mst, .ref eH, .ref eX, .ref eY, .ref eZ, .int Mhp, .int Mpl]))] s.heap := hP
  have hl := lv_entry ([.ref y0, .int p1]) (n := 2) (Nat.le_of_ble_eq_true rfl)
  rw [lg_entry_eq]
  generalize (lg_sl ([.ref y0, .int p1]) ++ List.replicate (2 - (lg_sl ([.ref y0, .int p1])).length) Slot.unset).toArray = ls at hl ⊢
  have hl : lv_has ls 2 [(0, .ref y0), (1, .int p1)] := hl
  refine lv_iload_n hx hb d_Mo_gone_0 rfl (lv_at hl 1 rfl) ?_
  by_cases c1 : p1 = 0
  · refine lv_tableIn (off := 35) (tgt := 36) hx hb d_Mo_gone_1 (by rw [c1]; decide) (by rw [c1]; decide) (by rw [c1]; decide) (by decide) ?_
    refine lv_aload_n hx hb d_Mo_gone_36 rfl (lv_at hl 0 rfl) ?_
    refine va_get (D := (dC, dI)) (ci := 7) (v := .long Mca) (C := R_Mo) (T := F_Mo) (N := 26) hx hb hwg iu_Mo hown hK hP 0 rfl rfl 15 (by decide) (hwg _ kw_337) (fun _ h9 => h9) rfl d_Mo_gone_37 ?_
    have hP9 := hP.sub (ws' := [(y0, .inr (7, [.ref eS, .ref eP, .int Mfe, .ref eM, .ref eK, .ref eG, .ref eR, .long Mbo, .long Mro, .int Mus, .ref eN, .ref eW, .ref eV, .int Mne, .ref eA, .long Mca, .long Mga, .long Mgl, .long Mfl, .long Mst, .ref eH, .ref eX, .ref eY, .ref eZ, .int Mhp, .int Mpl]))]) [0] rfl
    have hD9 := hD.sub (ws' := [(y0, .inr (7, [.ref eS, .ref eP, .int Mfe, .ref eM, .ref eK, .ref eG, .ref eR, .long Mbo, .long Mro, .int Mus, .ref eN, .ref eW, .ref eV, .int Mne, .ref eA, .long Mca, .long Mga, .long Mgl, .long Mfl, .long Mst, .ref eH, .ref eX, .ref eY, .ref eZ, .int Mhp, .int Mpl]))]) [0] (by decide) rfl
    exact W.lret (v := Mca) hx hb hr (fun t ht hW => ⟨⟨Mca, (), rfl, by simp only [f_Mo_gone, if_pos c1], by rw [ht]; exact hP9, hD9⟩, hS.F ht⟩) hS.2.2 d_Mo_gone_40
  · have hsw := trivial
    by_cases c1_2 : p1 = 1
    · refine lv_tableIn (off := 40) (tgt := 41) hx hb d_Mo_gone_1 (by rw [c1_2]; decide) (by rw [c1_2]; decide) (by rw [c1_2]; decide) (by decide) ?_
      refine lv_aload_n hx hb d_Mo_gone_41 rfl (lv_at hl 0 rfl) ?_
      refine va_get (D := (dC, dI)) (ci := 7) (v := .long Mga) (C := R_Mo) (T := F_Mo) (N := 26) hx hb hwg iu_Mo hown hK hP 0 rfl rfl 16 (by decide) (hwg _ kw_338) (fun _ h9 => h9) rfl d_Mo_gone_42 ?_
      have hP9 := hP.sub (ws' := [(y0, .inr (7, [.ref eS, .ref eP, .int Mfe, .ref eM, .ref eK, .ref eG, .ref eR, .long Mbo, .long Mro, .int Mus, .ref eN, .ref eW, .ref eV, .int Mne, .ref eA, .long Mca, .long Mga, .long Mgl, .long Mfl, .long Mst, .ref eH, .ref eX, .ref eY, .ref eZ, .int Mhp, .int Mpl]))]) [0] rfl
      have hD9 := hD.sub (ws' := [(y0, .inr (7, [.ref eS, .ref eP, .int Mfe, .ref eM, .ref eK, .ref eG, .ref eR, .long Mbo, .long Mro, .int Mus, .ref eN, .ref eW, .ref eV, .int Mne, .ref eA, .long Mca, .long Mga, .long Mgl, .long Mfl, .long Mst, .ref eH, .ref eX, .ref eY, .ref eZ, .int Mhp, .int Mpl]))]) [0] (by decide) rfl
      exact W.lret (v := Mga) hx hb hr (fun t ht hW => ⟨⟨Mga, (), rfl, by simp only [f_Mo_gone, if_neg c1, if_pos c1_2], by rw [ht]; exact hP9, hD9⟩, hS.F ht⟩) hS.2.2 d_Mo_gone_45
    · have hsw := trivial
      by_cases c1_3 : p1 = 2
      · refine lv_tableIn (off := 45) (tgt := 46) hx hb d_Mo_gone_1 (by rw [c1_3]; decide) (by rw [c1_3]; decide) (by rw [c1_3]; decide) (by decide) ?_
        refine lv_aload_n hx hb d_Mo_gone_46 rfl (lv_at hl 0 rfl) ?_
        refine va_get (D := (dC, dI)) (ci := 7) (v := .long Mgl) (C := R_Mo) (T := F_Mo) (N := 26) hx hb hwg iu_Mo hown hK hP 0 rfl rfl 17 (by decide) (hwg _ kw_339) (fun _ h9 => h9) rfl d_Mo_gone_47 ?_
        have hP9 := hP.sub (ws' := [(y0, .inr (7, [.ref eS, .ref eP, .int Mfe, .ref eM, .ref eK, .ref eG, .ref eR, .long Mbo, .long Mro, .int Mus, .ref eN, .ref eW, .ref eV, .int Mne, .ref eA, .long Mca, .long Mga, .long Mgl, .long Mfl, .long Mst, .ref eH, .ref eX, .ref eY, .ref eZ, .int Mhp, .int Mpl]))]) [0] rfl
        have hD9 := hD.sub (ws' := [(y0, .inr (7, [.ref eS, .ref eP, .int Mfe, .ref eM, .ref eK, .ref eG, .ref eR, .long Mbo, .long Mro, .int Mus, .ref eN, .ref eW, .ref eV, .int Mne, .ref eA, .long Mca, .long Mga, .long Mgl, .long Mfl, .long Mst, .ref eH, .ref eX, .ref eY, .ref eZ, .int Mhp, .int Mpl]))]) [0] (by decide) rfl
        exact W.lret (v := Mgl) hx hb hr (fun t ht hW => ⟨⟨Mgl, (), rfl, by simp only [f_Mo_gone, if_neg c1, if_neg c1_2, if_pos c1_3], by rw [ht]; exact hP9, hD9⟩, hS.F ht⟩) hS.2.2 d_Mo_gone_50
      · have hsw := trivial
        by_cases c1_4 : p1 = 3
        · refine lv_tableIn (off := 50) (tgt := 51) hx hb d_Mo_gone_1 (by rw [c1_4]; decide) (by rw [c1_4]; decide) (by rw [c1_4]; decide) (by decide) ?_
          refine lv_aload_n hx hb d_Mo_gone_51 rfl (lv_at hl 0 rfl) ?_
          refine va_get (D := (dC, dI)) (ci := 7) (v := .long Mfl) (C := R_Mo) (T := F_Mo) (N := 26) hx hb hwg iu_Mo hown hK hP 0 rfl rfl 18 (by decide) (hwg _ kw_340) (fun _ h9 => h9) rfl d_Mo_gone_52 ?_
          have hP9 := hP.sub (ws' := [(y0, .inr (7, [.ref eS, .ref eP, .int Mfe, .ref eM, .ref eK, .ref eG, .ref eR, .long Mbo, .long Mro, .int Mus, .ref eN, .ref eW, .ref eV, .int Mne, .ref eA, .long Mca, .long Mga, .long Mgl, .long Mfl, .long Mst, .ref eH, .ref eX, .ref eY, .ref eZ, .int Mhp, .int Mpl]))]) [0] rfl
          have hD9 := hD.sub (ws' := [(y0, .inr (7, [.ref eS, .ref eP, .int Mfe, .ref eM, .ref eK, .ref eG, .ref eR, .long Mbo, .long Mro, .int Mus, .ref eN, .ref eW, .ref eV, .int Mne, .ref eA, .long Mca, .long Mga, .long Mgl, .long Mfl, .long Mst, .ref eH, .ref eX, .ref eY, .ref eZ, .int Mhp, .int Mpl]))]) [0] (by decide) rfl
          exact W.lret (v := Mfl) hx hb hr (fun t ht hW => ⟨⟨Mfl, (), rfl, by simp only [f_Mo_gone, if_neg c1, if_neg c1_2, if_neg c1_3, if_pos c1_4], by rw [ht]; exact hP9, hD9⟩, hS.F ht⟩) hS.2.2 d_Mo_gone_55
        · have hsw := trivial
          by_cases c1_5 : p1 = 4
          · refine lv_tableIn (off := 55) (tgt := 56) hx hb d_Mo_gone_1 (by rw [c1_5]; decide) (by rw [c1_5]; decide) (by rw [c1_5]; decide) (by decide) ?_
            refine lv_aload_n hx hb d_Mo_gone_56 rfl (lv_at hl 0 rfl) ?_
            refine va_get (D := (dC, dI)) (ci := 7) (v := .long Mst) (C := R_Mo) (T := F_Mo) (N := 26) hx hb hwg iu_Mo hown hK hP 0 rfl rfl 19 (by decide) (hwg _ kw_341) (fun _ h9 => h9) rfl d_Mo_gone_57 ?_
            have hP9 := hP.sub (ws' := [(y0, .inr (7, [.ref eS, .ref eP, .int Mfe, .ref eM, .ref eK, .ref eG, .ref eR, .long Mbo, .long Mro, .int Mus, .ref eN, .ref eW, .ref eV, .int Mne, .ref eA, .long Mca, .long Mga, .long Mgl, .long Mfl, .long Mst, .ref eH, .ref eX, .ref eY, .ref eZ, .int Mhp, .int Mpl]))]) [0] rfl
            have hD9 := hD.sub (ws' := [(y0, .inr (7, [.ref eS, .ref eP, .int Mfe, .ref eM, .ref eK, .ref eG, .ref eR, .long Mbo, .long Mro, .int Mus, .ref eN, .ref eW, .ref eV, .int Mne, .ref eA, .long Mca, .long Mga, .long Mgl, .long Mfl, .long Mst, .ref eH, .ref eX, .ref eY, .ref eZ, .int Mhp, .int Mpl]))]) [0] (by decide) rfl
            exact W.lret (v := Mst) hx hb hr (fun t ht hW => ⟨⟨Mst, (), rfl, by simp only [f_Mo_gone, if_neg c1, if_neg c1_2, if_neg c1_3, if_neg c1_4, if_pos c1_5], by rw [ht]; exact hP9, hD9⟩, hS.F ht⟩) hS.2.2 d_Mo_gone_60
          · have hsw := trivial
            refine lv_tableOut (tgt := 61) hx hb d_Mo_gone_1 (by have t0 := lv_neT (a := 0) c1 (by decide); have t1 := lv_neT (a := 1) c1_2 (by decide); have t2 := lv_neT (a := 2) c1_3 (by decide); have t3 := lv_neT (a := 3) c1_4 (by decide); have t4 := lv_neT (a := 4) c1_5 (by decide); omega) (by decide) ?_
            refine lv_ldc2 hx hb hown (hwg _ kw_407) d_Mo_gone_61 ?_
            have hP9 := hP.sub (ws' := [(y0, .inr (7, [.ref eS, .ref eP, .int Mfe, .ref eM, .ref eK, .ref eG, .ref eR, .long Mbo, .long Mro, .int Mus, .ref eN, .ref eW, .ref eV, .int Mne, .ref eA, .long Mca, .long Mga, .long Mgl, .long Mfl, .long Mst, .ref eH, .ref eX, .ref eY, .ref eZ, .int Mhp, .int Mpl]))]) [0] rfl
            have hD9 := hD.sub (ws' := [(y0, .inr (7, [.ref eS, .ref eP, .int Mfe, .ref eM, .ref eK, .ref eG, .ref eR, .long Mbo, .long Mro, .int Mus, .ref eN, .ref eW, .ref eV, .int Mne, .ref eA, .long Mca, .long Mga, .long Mgl, .long Mfl, .long Mst, .ref eH, .ref eX, .ref eY, .ref eZ, .int Mhp, .int Mpl]))]) [0] (by decide) rfl
            exact W.lret (v := (-1)) hx hb hr (fun t ht hW => ⟨⟨(-1), (), rfl, by simp only [f_Mo_gone, if_neg c1, if_neg c1_2, if_neg c1_3, if_neg c1_4, if_neg c1_5], by rw [ht]; exact hP9, hD9⟩, hS.F ht⟩) hS.2.2 d_Mo_gone_64
def f_Mo_balance (Mca : Int64) (Mga : Int64) (Mgl : Int64) (Mfl : Int64) (Mst : Int64) (Mpa : Nat → Int64) (p1 : Int32) : Int64 := if p1 = 0 then (((((Mca - (Mpa 0)) - (Mpa 1)) - (Mpa 2)) - (Mpa 3)) - Mga) else (if p1 = 1 then (((Mga - Mst) - Mgl) - Mfl) else ((-1)))
abbrev rm_Mo_balance : Room := { frames := 0, cells := 0, slots := 0, locals := 0 }
set_option maxHeartbeats 4000000 in
set_option maxRecDepth 100000 in
theorem c_Mo_balance (l : Launch) (dC : Nat → ClassId) (dI : Nat → Nat → Nat) (cI cL cZ : ClassId) (y0 eS eP eM eK eG eR eN eW eV eA eH eX eY eZ : Nat) (sz : Nat) (Mfe : Int32) (Mbo : Int64) (Mro : Int64) (Mus : Int32) (Mne : Int32) (Mca : Int64) (Mga : Int64) (Mgl : Int64) (Mfl : Int64) (Mst : Int64) (Mhp : Int32) (Mpl : Int32) (Mpa : Nat → Int64) (p1 : Int32) : Met l y_Mo_balance w_Mo_balance rm_Mo_balance (va_Pc [.ref y0, .int p1] (c_pre dC dI cI cL cZ [(y0, .inr (7, [.ref eS, .ref eP, .int Mfe, .ref eM, .ref eK, .ref eG, .ref eR, .long Mbo, .long Mro, .int Mus, .ref eN, .ref eW, .ref eV, .int Mne, .ref eA, .long Mca, .long Mga, .long Mgl, .long Mfl, .long Mst, .ref eH, .ref eX, .ref eY, .ref eZ, .int Mhp, .int Mpl])), (eP, .inl (cL, 4, .inr (.inl Mpa)))] sz)) (va_Ql (fun (r : Int64) (_ : Unit) => f_Mo_balance Mca Mga Mgl Mfl Mst Mpa p1 = r) (c_post dC dI (fun (u : Unit) => [(y0, .inr (7, [.ref eS, .ref eP, .int Mfe, .ref eM, .ref eK, .ref eG, .ref eR, .long Mbo, .long Mro, .int Mus, .ref eN, .ref eW, .ref eV, .int Mne, .ref eA, .long Mca, .long Mga, .long Mgl, .long Mfl, .long Mst, .ref eH, .ref eX, .ref eY, .ref eZ, .int Mhp, .int Mpl])), (eP, .inl (cL, 4, .inr (.inl Mpa)))]) (va_A [(y0, .inr (7, [.ref eS, .ref eP, .int Mfe, .ref eM, .ref eK, .ref eG, .ref eR, .long Mbo, .long Mro, .int Mus, .ref eN, .ref eW, .ref eV, .int Mne, .ref eA, .long Mca, .long Mga, .long Mgl, .long Mfl, .long Mst, .ref eH, .ref eX, .ref eY, .ref eZ, .int Mhp, .int Mpl])), (eP, .inl (cL, 4, .inr (.inl Mpa)))] sz)) (va_A [(y0, .inr (7, [.ref eS, .ref eP, .int Mfe, .ref eM, .ref eK, .ref eG, .ref eR, .long Mbo, .long Mro, .int Mus, .ref eN, .ref eW, .ref eV, .int Mne, .ref eA, .long Mca, .long Mga, .long Mgl, .long Mfl, .long Mst, .ref eH, .ref eX, .ref eY, .ref eZ, .int Mhp, .int Mpl])), (eP, .inl (cL, 4, .inr (.inl Mpa)))] sz)) 0 0 (va_A [(y0, .inr (7, [.ref eS, .ref eP, .int Mfe, .ref eM, .ref eK, .ref eG, .ref eR, .long Mbo, .long Mro, .int Mus, .ref eN, .ref eW, .ref eV, .int Mne, .ref eA, .long Mca, .long Mga, .long Mgl, .long Mfl, .long Mst, .ref eH, .ref eX, .ref eY, .ref eZ, .int Mhp, .int Mpl])), (eP, .inl (cL, 4, .inr (.inl Mpa)))] sz) := by
  refine Met.ofW (cc := b_Mo_balance) (maxL := 2) (ret := (some .long)) (by decide) rfl ?_
  intro p e s m args below meth c s₁ B hml hv
  obtain ⟨rfl, hsz, hP, hK, hN, hD0⟩ := hv
  have hx := B.exec
  have hb := B.bytes
  have hr := B.returns
  have hts := atoms_spec (ws := w_Mo_balance) B.pre
  have hown : s.vm.findClass R_Mo = some m.cls := findClass_of_methodNamed B.named
  have hlocks := B.notSynchronized
  have hwg : ∀ w ∈ wg, w.before ([.ref y0, .int p1] : List Value).toArray s = true := fun w h => hts w (List.mem_cons_of_mem _ h)
  subst hsz
  have hD := hD0.self (sz := s.heap.size)
  generalize hAe : va_A [(y0, .inr (7, [.ref eS, .ref eP, .int Mfe, .ref eM, .ref eK, .ref eG, .ref eR, .long Mbo, .long Mro, .int Mus, .ref eN, .ref eW, .ref eV, .int Mne, .ref eA, .long Mca, .long Mga, .long Mgl, .long Mfl, .long Mst, .ref eH, .ref eX, .ref eY, .ref eZ, .int Mhp, .int Mpl])), (eP, .inl (cL, 4, .inr (.inl Mpa)))] s.heap.size = A at hD ⊢
  have hA : ∀ q : Nat, s.heap.size ≤ q → A q := fun q h => by rw [← hAe]; exact Or.inr h
  have hS : va_S A s.heap s.heap [] := va_S.rf
  have hP : va_P (dC, dI) vwCl [(y0, .inr (7, [.ref eS, .ref eP, .int Mfe, .ref eM, .ref eK, .ref eG, .ref eR, .long Mbo, .long Mro, .int Mus, .ref eN, .ref eW, .ref eV, .int Mne, .ref eA, .long Mca, .long Mga, .long Mgl, .long Mfl, .long Mst, .ref eH, .ref eX, .ref eY, .ref eZ, .int Mhp, .int Mpl])), (eP, .inl (cL, 4, .inr (.inl Mpa)))] s.heap := hP
  have hl := lv_entry ([.ref y0, .int p1]) (n := 2) (Nat.le_of_ble_eq_true rfl)
  rw [lg_entry_eq]
  generalize (lg_sl ([.ref y0, .int p1]) ++ List.replicate (2 - (lg_sl ([.ref y0, .int p1])).length) Slot.unset).toArray = ls at hl ⊢
  have hl : lv_has ls 2 [(0, .ref y0), (1, .int p1)] := hl
  refine lv_iload_n hx hb d_Mo_balance_0 rfl (lv_at hl 1 rfl) ?_
  refine lv_if_ne (tgt := 42) hx hb d_Mo_balance_1 (by decide) (fun (c1 : ¬ (p1 = 0)) => ?_) (fun (c1 : p1 = 0) => ?_)
  · refine lv_iload_n hx hb d_Mo_balance_42 rfl (lv_at hl 1 rfl) ?_
    refine lv_iconst (v := 1) hx hb d_Mo_balance_43 (by decide) ?_
    refine lv_icmp_ne (tgt := 69) hx hb d_Mo_balance_44 (by decide) (fun (c44 : ¬ (p1 = 1)) => ?_) (fun (c44 : p1 = 1) => ?_)
    · refine lv_ldc2 hx hb hown (hwg _ kw_407) d_Mo_balance_69 ?_
      have hP9 := hP.sub (ws' := [(y0, .inr (7, [.ref eS, .ref eP, .int Mfe, .ref eM, .ref eK, .ref eG, .ref eR, .long Mbo, .long Mro, .int Mus, .ref eN, .ref eW, .ref eV, .int Mne, .ref eA, .long Mca, .long Mga, .long Mgl, .long Mfl, .long Mst, .ref eH, .ref eX, .ref eY, .ref eZ, .int Mhp, .int Mpl])), (eP, .inl (cL, 4, .inr (.inl Mpa)))]) [0, 1] rfl
      have hD9 := hD.sub (ws' := [(y0, .inr (7, [.ref eS, .ref eP, .int Mfe, .ref eM, .ref eK, .ref eG, .ref eR, .long Mbo, .long Mro, .int Mus, .ref eN, .ref eW, .ref eV, .int Mne, .ref eA, .long Mca, .long Mga, .long Mgl, .long Mfl, .long Mst, .ref eH, .ref eX, .ref eY, .ref eZ, .int Mhp, .int Mpl])), (eP, .inl (cL, 4, .inr (.inl Mpa)))]) [0, 1] (by decide) rfl
      exact W.lret (v := (-1)) hx hb hr (fun t ht hW => ⟨⟨(-1), (), rfl, by simp only [f_Mo_balance, if_neg c1, if_neg c44], by rw [ht]; exact hP9, hD9⟩, hS.F ht⟩) hS.2.2 d_Mo_balance_72
    · refine lv_aload_n hx hb d_Mo_balance_47 rfl (lv_at hl 0 rfl) ?_
      refine va_get (D := (dC, dI)) (ci := 7) (v := .long Mga) (C := R_Mo) (T := F_Mo) (N := 26) hx hb hwg iu_Mo hown hK hP 0 rfl rfl 16 (by decide) (hwg _ kw_338) (fun _ h9 => h9) rfl d_Mo_balance_48 ?_
      refine lv_aload_n hx hb d_Mo_balance_51 rfl (lv_at hl 0 rfl) ?_
      refine va_get (D := (dC, dI)) (ci := 7) (v := .long Mst) (C := R_Mo) (T := F_Mo) (N := 26) hx hb hwg iu_Mo hown hK hP 0 rfl rfl 19 (by decide) (hwg _ kw_341) (fun _ h9 => h9) rfl d_Mo_balance_52 ?_
      refine lv_lsub hx hb d_Mo_balance_55 ?_
      refine lv_aload_n hx hb d_Mo_balance_56 rfl (lv_at hl 0 rfl) ?_
      refine va_get (D := (dC, dI)) (ci := 7) (v := .long Mgl) (C := R_Mo) (T := F_Mo) (N := 26) hx hb hwg iu_Mo hown hK hP 0 rfl rfl 17 (by decide) (hwg _ kw_339) (fun _ h9 => h9) rfl d_Mo_balance_57 ?_
      refine lv_lsub hx hb d_Mo_balance_60 ?_
      refine lv_aload_n hx hb d_Mo_balance_61 rfl (lv_at hl 0 rfl) ?_
      refine va_get (D := (dC, dI)) (ci := 7) (v := .long Mfl) (C := R_Mo) (T := F_Mo) (N := 26) hx hb hwg iu_Mo hown hK hP 0 rfl rfl 18 (by decide) (hwg _ kw_340) (fun _ h9 => h9) rfl d_Mo_balance_62 ?_
      refine lv_lsub hx hb d_Mo_balance_65 ?_
      refine lv_goto (tgt := 72) hx hb d_Mo_balance_66 (by decide) ?_
      have hP9 := hP.sub (ws' := [(y0, .inr (7, [.ref eS, .ref eP, .int Mfe, .ref eM, .ref eK, .ref eG, .ref eR, .long Mbo, .long Mro, .int Mus, .ref eN, .ref eW, .ref eV, .int Mne, .ref eA, .long Mca, .long Mga, .long Mgl, .long Mfl, .long Mst, .ref eH, .ref eX, .ref eY, .ref eZ, .int Mhp, .int Mpl])), (eP, .inl (cL, 4, .inr (.inl Mpa)))]) [0, 1] rfl
      have hD9 := hD.sub (ws' := [(y0, .inr (7, [.ref eS, .ref eP, .int Mfe, .ref eM, .ref eK, .ref eG, .ref eR, .long Mbo, .long Mro, .int Mus, .ref eN, .ref eW, .ref eV, .int Mne, .ref eA, .long Mca, .long Mga, .long Mgl, .long Mfl, .long Mst, .ref eH, .ref eX, .ref eY, .ref eZ, .int Mhp, .int Mpl])), (eP, .inl (cL, 4, .inr (.inl Mpa)))]) [0, 1] (by decide) rfl
      exact W.lret (v := ((Mga - Mst) - Mgl) - Mfl) hx hb hr (fun t ht hW => ⟨⟨((Mga - Mst) - Mgl) - Mfl, (), rfl, by simp only [f_Mo_balance, if_neg c1, if_pos c44], by rw [ht]; exact hP9, hD9⟩, hS.F ht⟩) hS.2.2 d_Mo_balance_72
  · refine lv_aload_n hx hb d_Mo_balance_4 rfl (lv_at hl 0 rfl) ?_
    refine va_get (D := (dC, dI)) (ci := 7) (v := .long Mca) (C := R_Mo) (T := F_Mo) (N := 26) hx hb hwg iu_Mo hown hK hP 0 rfl rfl 15 (by decide) (hwg _ kw_337) (fun _ h9 => h9) rfl d_Mo_balance_5 ?_
    refine lv_aload_n hx hb d_Mo_balance_8 rfl (lv_at hl 0 rfl) ?_
    refine va_get (D := (dC, dI)) (ci := 7) (v := .ref eP) (C := R_Mo) (T := F_Mo) (N := 26) hx hb hwg iu_Mo hown hK hP 0 rfl rfl 1 (by decide) (hwg _ kw_323) (fun _ h9 => h9) rfl d_Mo_balance_9 ?_
    refine lv_iconst (v := 0) hx hb d_Mo_balance_12 (by decide) ?_
    refine va_lald hx hb hK hP 1 1 rfl rfl (by unfold vp_in; decide) d_Mo_balance_13 ?_
    refine lv_lsub hx hb d_Mo_balance_14 ?_
    refine lv_aload_n hx hb d_Mo_balance_15 rfl (lv_at hl 0 rfl) ?_
    refine va_get (D := (dC, dI)) (ci := 7) (v := .ref eP) (C := R_Mo) (T := F_Mo) (N := 26) hx hb hwg iu_Mo hown hK hP 0 rfl rfl 1 (by decide) (hwg _ kw_323) (fun _ h9 => h9) rfl d_Mo_balance_16 ?_
    refine lv_iconst (v := 1) hx hb d_Mo_balance_19 (by decide) ?_
    refine va_lald hx hb hK hP 1 1 rfl rfl (by unfold vp_in; decide) d_Mo_balance_20 ?_
    refine lv_lsub hx hb d_Mo_balance_21 ?_
    refine lv_aload_n hx hb d_Mo_balance_22 rfl (lv_at hl 0 rfl) ?_
    refine va_get (D := (dC, dI)) (ci := 7) (v := .ref eP) (C := R_Mo) (T := F_Mo) (N := 26) hx hb hwg iu_Mo hown hK hP 0 rfl rfl 1 (by decide) (hwg _ kw_323) (fun _ h9 => h9) rfl d_Mo_balance_23 ?_
    refine lv_iconst (v := 2) hx hb d_Mo_balance_26 (by decide) ?_
    refine va_lald hx hb hK hP 1 1 rfl rfl (by unfold vp_in; decide) d_Mo_balance_27 ?_
    refine lv_lsub hx hb d_Mo_balance_28 ?_
    refine lv_aload_n hx hb d_Mo_balance_29 rfl (lv_at hl 0 rfl) ?_
    refine va_get (D := (dC, dI)) (ci := 7) (v := .ref eP) (C := R_Mo) (T := F_Mo) (N := 26) hx hb hwg iu_Mo hown hK hP 0 rfl rfl 1 (by decide) (hwg _ kw_323) (fun _ h9 => h9) rfl d_Mo_balance_30 ?_
    refine lv_iconst (v := 3) hx hb d_Mo_balance_33 (by decide) ?_
    refine va_lald hx hb hK hP 1 1 rfl rfl (by unfold vp_in; decide) d_Mo_balance_34 ?_
    refine lv_lsub hx hb d_Mo_balance_35 ?_
    refine lv_aload_n hx hb d_Mo_balance_36 rfl (lv_at hl 0 rfl) ?_
    refine va_get (D := (dC, dI)) (ci := 7) (v := .long Mga) (C := R_Mo) (T := F_Mo) (N := 26) hx hb hwg iu_Mo hown hK hP 0 rfl rfl 16 (by decide) (hwg _ kw_338) (fun _ h9 => h9) rfl d_Mo_balance_37 ?_
    refine lv_lsub hx hb d_Mo_balance_40 ?_
    have hP9 := hP.sub (ws' := [(y0, .inr (7, [.ref eS, .ref eP, .int Mfe, .ref eM, .ref eK, .ref eG, .ref eR, .long Mbo, .long Mro, .int Mus, .ref eN, .ref eW, .ref eV, .int Mne, .ref eA, .long Mca, .long Mga, .long Mgl, .long Mfl, .long Mst, .ref eH, .ref eX, .ref eY, .ref eZ, .int Mhp, .int Mpl])), (eP, .inl (cL, 4, .inr (.inl Mpa)))]) [0, 1] rfl
    have hD9 := hD.sub (ws' := [(y0, .inr (7, [.ref eS, .ref eP, .int Mfe, .ref eM, .ref eK, .ref eG, .ref eR, .long Mbo, .long Mro, .int Mus, .ref eN, .ref eW, .ref eV, .int Mne, .ref eA, .long Mca, .long Mga, .long Mgl, .long Mfl, .long Mst, .ref eH, .ref eX, .ref eY, .ref eZ, .int Mhp, .int Mpl])), (eP, .inl (cL, 4, .inr (.inl Mpa)))]) [0, 1] (by decide) rfl
    exact W.lret (v := ((((Mca - (Mpa 0)) - (Mpa 1)) - (Mpa 2)) - (Mpa 3)) - Mga) hx hb hr (fun t ht hW => ⟨⟨((((Mca - (Mpa 0)) - (Mpa 1)) - (Mpa 2)) - (Mpa 3)) - Mga, (), rfl, by simp only [f_Mo_balance, if_pos c1], by rw [ht]; exact hP9, hD9⟩, hS.F ht⟩) hS.2.2 d_Mo_balance_41
def f_Mo_acid_L6 (Mpa : Nat → Int64) : Nat → Int64 → Int64 → Int32
  | 0, _, _ => 0
  | n + 1, lo, hi => if 0 ≤ (lg_cmp lo hi) then (Int64.toInt32 lo) else (if 0 < (lg_cmp (((((lo + hi) + 1) / 2) * (((lo + hi) + 1) / 2)) + ((((lo + hi) + 1) / 2) * (Mpa 3))) (1000 * (Mpa 2))) then (f_Mo_acid_L6 Mpa n lo ((((lo + hi) + 1) / 2) - 1)) else (f_Mo_acid_L6 Mpa n (((lo + hi) + 1) / 2) hi))
def f_Mo_acid (Mpa : Nat → Int64) : Int32 := f_Mo_acid_L6 Mpa 1000001 0 1000000
abbrev rm_Mo_acid : Room := { frames := 0, cells := 0, slots := 0, locals := 0 }
set_option maxHeartbeats 4000000 in
set_option maxRecDepth 100000 in
theorem c_Mo_acid (l : Launch) (dC : Nat → ClassId) (dI : Nat → Nat → Nat) (cI cL cZ : ClassId) (y0 eS eP eM eK eG eR eN eW eV eA eH eX eY eZ : Nat) (sz : Nat) (Mfe : Int32) (Mbo : Int64) (Mro : Int64) (Mus : Int32) (Mne : Int32) (Mca : Int64) (Mga : Int64) (Mgl : Int64) (Mfl : Int64) (Mst : Int64) (Mhp : Int32) (Mpl : Int32) (Mpa : Nat → Int64) : Met l y_Mo_acid w_Mo_acid rm_Mo_acid (va_Pc [.ref y0] (c_pre dC dI cI cL cZ [(y0, .inr (7, [.ref eS, .ref eP, .int Mfe, .ref eM, .ref eK, .ref eG, .ref eR, .long Mbo, .long Mro, .int Mus, .ref eN, .ref eW, .ref eV, .int Mne, .ref eA, .long Mca, .long Mga, .long Mgl, .long Mfl, .long Mst, .ref eH, .ref eX, .ref eY, .ref eZ, .int Mhp, .int Mpl])), (eP, .inl (cL, 4, .inr (.inl Mpa)))] sz)) (va_Qi (fun (r : Int32) (_ : Unit) => f_Mo_acid Mpa = r) (c_post dC dI (fun (u : Unit) => [(y0, .inr (7, [.ref eS, .ref eP, .int Mfe, .ref eM, .ref eK, .ref eG, .ref eR, .long Mbo, .long Mro, .int Mus, .ref eN, .ref eW, .ref eV, .int Mne, .ref eA, .long Mca, .long Mga, .long Mgl, .long Mfl, .long Mst, .ref eH, .ref eX, .ref eY, .ref eZ, .int Mhp, .int Mpl])), (eP, .inl (cL, 4, .inr (.inl Mpa)))]) (va_A [(y0, .inr (7, [.ref eS, .ref eP, .int Mfe, .ref eM, .ref eK, .ref eG, .ref eR, .long Mbo, .long Mro, .int Mus, .ref eN, .ref eW, .ref eV, .int Mne, .ref eA, .long Mca, .long Mga, .long Mgl, .long Mfl, .long Mst, .ref eH, .ref eX, .ref eY, .ref eZ, .int Mhp, .int Mpl])), (eP, .inl (cL, 4, .inr (.inl Mpa)))] sz)) (va_A [(y0, .inr (7, [.ref eS, .ref eP, .int Mfe, .ref eM, .ref eK, .ref eG, .ref eR, .long Mbo, .long Mro, .int Mus, .ref eN, .ref eW, .ref eV, .int Mne, .ref eA, .long Mca, .long Mga, .long Mgl, .long Mfl, .long Mst, .ref eH, .ref eX, .ref eY, .ref eZ, .int Mhp, .int Mpl])), (eP, .inl (cL, 4, .inr (.inl Mpa)))] sz)) 0 0 (va_A [(y0, .inr (7, [.ref eS, .ref eP, .int Mfe, .ref eM, .ref eK, .ref eG, .ref eR, .long Mbo, .long Mro, .int Mus, .ref eN, .ref eW, .ref eV, .int Mne, .ref eA, .long Mca, .long Mga, .long Mgl, .long Mfl, .long Mst, .ref eH, .ref eX, .ref eY, .ref eZ, .int Mhp, .int Mpl])), (eP, .inl (cL, 4, .inr (.inl Mpa)))] sz) := by
  refine Met.ofW (cc := b_Mo_acid) (maxL := 8) (ret := (some .int)) (by decide) rfl ?_
  intro p e s m args below meth c s₁ B hml hv
  obtain ⟨rfl, hsz, hP, hK, hN, hD0⟩ := hv
  have hx := B.exec
  have hb := B.bytes
  have hr := B.returns
  have hts := atoms_spec (ws := w_Mo_acid) B.pre
  have hown : s.vm.findClass R_Mo = some m.cls := findClass_of_methodNamed B.named
  have hlocks := B.notSynchronized
  have hwg : ∀ w ∈ wg, w.before ([.ref y0] : List Value).toArray s = true := fun w h => hts w (List.mem_cons_of_mem _ h)
  subst hsz
  have hD := hD0.self (sz := s.heap.size)
  generalize hAe : va_A [(y0, .inr (7, [.ref eS, .ref eP, .int Mfe, .ref eM, .ref eK, .ref eG, .ref eR, .long Mbo, .long Mro, .int Mus, .ref eN, .ref eW, .ref eV, .int Mne, .ref eA, .long Mca, .long Mga, .long Mgl, .long Mfl, .long Mst, .ref eH, .ref eX, .ref eY, .ref eZ, .int Mhp, .int Mpl])), (eP, .inl (cL, 4, .inr (.inl Mpa)))] s.heap.size = A at hD ⊢
  have hA : ∀ q : Nat, s.heap.size ≤ q → A q := fun q h => by rw [← hAe]; exact Or.inr h
  have hS : va_S A s.heap s.heap [] := va_S.rf
  have hP : va_P (dC, dI) vwCl [(y0, .inr (7, [.ref eS, .ref eP, .int Mfe, .ref eM, .ref eK, .ref eG, .ref eR, .long Mbo, .long Mro, .int Mus, .ref eN, .ref eW, .ref eV, .int Mne, .ref eA, .long Mca, .long Mga, .long Mgl, .long Mfl, .long Mst, .ref eH, .ref eX, .ref eY, .ref eZ, .int Mhp, .int Mpl])), (eP, .inl (cL, 4, .inr (.inl Mpa)))] s.heap := hP
  have hl := lv_entry ([.ref y0]) (n := 8) (Nat.le_of_ble_eq_true rfl)
  rw [lg_entry_eq]
  generalize (lg_sl ([.ref y0]) ++ List.replicate (8 - (lg_sl ([.ref y0])).length) Slot.unset).toArray = ls at hl ⊢
  have hl : lv_has ls 8 [(0, .ref y0)] := hl
  refine lv_lconst (v := 0) hx hb d_Mo_acid_0 (by decide) ?_
  refine lv_lstore_n (lv' := [(1, .long 0), (0, .ref y0)]) hx hb d_Mo_acid_1 rfl hl (by decide) rfl (fun ls hl => ?_)
  refine lv_ldc2 hx hb hown (hwg _ kw_366) d_Mo_acid_2 ?_
  refine lv_lstore_n (lv' := [(3, .long 1000000), (1, .long 0), (0, .ref y0)]) hx hb d_Mo_acid_5 rfl hl (by decide) rfl (fun ls hl => ?_)
  have loop6 : ∀ (n6 : Nat) (lo : Int64) (hi : Int64) (H6 : Heap) (locs : List Loc) (ls : Array Slot), (hi.toInt - lo.toInt).toNat < n6 → (0 ≤ lo.toInt ∧ lo.toInt ≤ 1000000) → (0 ≤ hi.toInt ∧ hi.toInt ≤ 1000000) → f_Mo_acid Mpa = f_Mo_acid_L6 Mpa n6 lo hi → va_P (dC, dI) vwCl [(y0, .inr (7, [.ref eS, .ref eP, .int Mfe, .ref eM, .ref eK, .ref eG, .ref eR, .long Mbo, .long Mro, .int Mus, .ref eN, .ref eW, .ref eV, .int Mne, .ref eA, .long Mca, .long Mga, .long Mgl, .long Mfl, .long Mst, .ref eH, .ref eX, .ref eY, .ref eZ, .int Mhp, .int Mpl])), (eP, .inl (cL, 4, .inr (.inl Mpa)))] H6 → va_D A [(y0, .inr (7, [.ref eS, .ref eP, .int Mfe, .ref eM, .ref eK, .ref eG, .ref eR, .long Mbo, .long Mro, .int Mus, .ref eN, .ref eW, .ref eV, .int Mne, .ref eA, .long Mca, .long Mga, .long Mgl, .long Mfl, .long Mst, .ref eH, .ref eX, .ref eY, .ref eZ, .int Mhp, .int Mpl])), (eP, .inl (cL, 4, .inr (.inl Mpa)))] → va_S A s.heap H6 locs → lv_has ls 8 [(0, .ref y0), (1, .long lo), (3, .long hi)] → W p l e (headSpec w_Mo_acid rm_Mo_acid).room s m ([.ref y0] : List Value).toArray below meth c H6 locs 0 0 (MQ below (va_Qi (fun (r : Int32) (_ : Unit) => f_Mo_acid Mpa = r) (c_post dC dI (fun (u : Unit) => [(y0, .inr (7, [.ref eS, .ref eP, .int Mfe, .ref eM, .ref eK, .ref eG, .ref eR, .long Mbo, .long Mro, .int Mus, .ref eN, .ref eW, .ref eV, .int Mne, .ref eA, .long Mca, .long Mga, .long Mgl, .long Mfl, .long Mst, .ref eH, .ref eX, .ref eY, .ref eZ, .int Mhp, .int Mpl])), (eP, .inl (cL, 4, .inr (.inl Mpa)))]) A) A) ([.ref y0] : List Value).toArray s 0 0 A) (F0 m 6 ls []) := by
    intro n6
    induction n6 with
    | zero => intro lo hi H6 locs ls hm; exact absurd hm (Nat.not_lt_zero _)
    | succ n6 ih6 =>
      intro lo hi H6 locs ls hm6 hlo hhi hF6 hP hD hS hl
      refine lv_lload_n hx hb d_Mo_acid_6 rfl (lv_at hl 1 rfl) ?_
      refine lv_lload_n hx hb d_Mo_acid_7 rfl (lv_at hl 2 rfl) ?_
      refine W.lcmp hx hb d_Mo_acid_8 ?_
      refine lv_if_ge (tgt := 88) hx hb d_Mo_acid_9 (by decide) (fun (c9 : 0 ≤ (lg_cmp lo hi)) => ?_) (fun (c9 : ¬ (0 ≤ (lg_cmp lo hi))) => ?_)
      · refine lv_lload_n hx hb d_Mo_acid_88 rfl (lv_at hl 1 rfl) ?_
        refine lv_l2i hx hb d_Mo_acid_89 rfl ?_
        have hP9 := hP.sub (ws' := [(y0, .inr (7, [.ref eS, .ref eP, .int Mfe, .ref eM, .ref eK, .ref eG, .ref eR, .long Mbo, .long Mro, .int Mus, .ref eN, .ref eW, .ref eV, .int Mne, .ref eA, .long Mca, .long Mga, .long Mgl, .long Mfl, .long Mst, .ref eH, .ref eX, .ref eY, .ref eZ, .int Mhp, .int Mpl])), (eP, .inl (cL, 4, .inr (.inl Mpa)))]) [0, 1] rfl
        have hD9 := hD.sub (ws' := [(y0, .inr (7, [.ref eS, .ref eP, .int Mfe, .ref eM, .ref eK, .ref eG, .ref eR, .long Mbo, .long Mro, .int Mus, .ref eN, .ref eW, .ref eV, .int Mne, .ref eA, .long Mca, .long Mga, .long Mgl, .long Mfl, .long Mst, .ref eH, .ref eX, .ref eY, .ref eZ, .int Mhp, .int Mpl])), (eP, .inl (cL, 4, .inr (.inl Mpa)))]) [0, 1] (by decide) rfl
        exact W.iret (v := Int64.toInt32 lo) hx hb hr (fun t ht hW => ⟨⟨Int64.toInt32 lo, (), rfl, by rw [hF6]; simp only [f_Mo_acid_L6, if_pos c9], by rw [ht]; exact hP9, hD9⟩, hS.F ht⟩) hS.2.2 d_Mo_acid_90
      · refine lv_lload_n hx hb d_Mo_acid_12 rfl (lv_at hl 1 rfl) ?_
        refine lv_lload_n hx hb d_Mo_acid_13 rfl (lv_at hl 2 rfl) ?_
        refine lv_ladd hx hb d_Mo_acid_14 ?_
        refine lv_lconst (v := 1) hx hb d_Mo_acid_15 (by decide) ?_
        refine lv_ladd hx hb d_Mo_acid_16 ?_
        refine lv_ldc2 hx hb hown (hwg _ kw_356) d_Mo_acid_17 ?_
        refine lv_ldiv hx hb d_Mo_acid_20 (by decide) ?_
        refine lv_lstore (lv' := [(5, .long (((lo + hi) + 1) / 2)), (0, .ref y0), (1, .long lo), (3, .long hi)]) hx hb d_Mo_acid_21 hl (by decide) rfl (fun ls hl => ?_)
        refine lv_lload hx hb d_Mo_acid_23 (lv_at hl 0 rfl) ?_
        refine lv_lload hx hb d_Mo_acid_25 (lv_at hl 0 rfl) ?_
        refine lv_lmul hx hb d_Mo_acid_27 ?_
        refine lv_lload hx hb d_Mo_acid_28 (lv_at hl 0 rfl) ?_
        refine lv_aload_n hx hb d_Mo_acid_30 rfl (lv_at hl 1 rfl) ?_
        refine va_get (D := (dC, dI)) (ci := 7) (v := .ref eP) (C := R_Mo) (T := F_Mo) (N := 26) hx hb hwg iu_Mo hown hK hP 0 rfl rfl 1 (by decide) (hwg _ kw_323) (fun _ h9 => h9) rfl d_Mo_acid_31 ?_
        refine lv_iconst (v := 3) hx hb d_Mo_acid_34 (by decide) ?_
        refine va_lald hx hb hK hP 1 1 rfl rfl (by unfold vp_in; decide) d_Mo_acid_35 ?_
        refine lv_lmul hx hb d_Mo_acid_36 ?_
        refine lv_ladd hx hb d_Mo_acid_37 ?_
        refine lv_ldc2 hx hb hown (hwg _ kw_360) d_Mo_acid_38 ?_
        refine lv_aload_n hx hb d_Mo_acid_41 rfl (lv_at hl 1 rfl) ?_
        refine va_get (D := (dC, dI)) (ci := 7) (v := .ref eP) (C := R_Mo) (T := F_Mo) (N := 26) hx hb hwg iu_Mo hown hK hP 0 rfl rfl 1 (by decide) (hwg _ kw_323) (fun _ h9 => h9) rfl d_Mo_acid_42 ?_
        refine lv_iconst (v := 2) hx hb d_Mo_acid_45 (by decide) ?_
        refine va_lald hx hb hK hP 1 1 rfl rfl (by unfold vp_in; decide) d_Mo_acid_46 ?_
        refine lv_lmul hx hb d_Mo_acid_47 ?_
        refine W.lcmp hx hb d_Mo_acid_48 ?_
        refine lv_if_gt (tgt := 56) hx hb d_Mo_acid_49 (by decide) (fun (c49 : 0 < (lg_cmp (((((lo + hi) + 1) / 2) * (((lo + hi) + 1) / 2)) + ((((lo + hi) + 1) / 2) * (Mpa 3))) (1000 * (Mpa 2)))) => ?_) (fun (c49 : ¬ (0 < (lg_cmp (((((lo + hi) + 1) / 2) * (((lo + hi) + 1) / 2)) + ((((lo + hi) + 1) / 2) * (Mpa 3))) (1000 * (Mpa 2))))) => ?_)
        · refine lv_iconst (v := 0) hx hb d_Mo_acid_56 (by decide) ?_
          refine lv_istore (lv' := [(7, .int 0), (5, .long (((lo + hi) + 1) / 2)), (0, .ref y0), (1, .long lo), (3, .long hi)]) hx hb d_Mo_acid_57 hl (by decide) rfl (fun ls hl => ?_)
          refine lv_iload hx hb d_Mo_acid_59 (lv_at hl 0 rfl) ?_
          refine lv_if_eq (tgt := 69) hx hb d_Mo_acid_61 (by decide) (fun c61 => ?_) (fun c61 => ?_)
          rotate_left
          · exact absurd c61 (by decide)
          refine lv_lload_n hx hb d_Mo_acid_69 rfl (lv_at hl 3 rfl) ?_
          refine lv_lstore_n (lv' := [(1, .long lo), (7, .int 0), (5, .long (((lo + hi) + 1) / 2)), (0, .ref y0), (3, .long hi)]) hx hb d_Mo_acid_70 rfl hl (by decide) rfl (fun ls hl => ?_)
          refine lv_iload hx hb d_Mo_acid_71 (lv_at hl 1 rfl) ?_
          refine lv_if_eq (tgt := 80) hx hb d_Mo_acid_73 (by decide) (fun c73 => ?_) (fun c73 => ?_)
          rotate_left
          · exact absurd c73 (by decide)
          refine lv_lload hx hb d_Mo_acid_80 (lv_at hl 2 rfl) ?_
          refine lv_lconst (v := 1) hx hb d_Mo_acid_82 (by decide) ?_
          refine lv_lsub hx hb d_Mo_acid_83 ?_
          refine lv_lstore_n (lv' := [(3, .long ((((lo + hi) + 1) / 2) - 1)), (1, .long lo), (7, .int 0), (5, .long (((lo + hi) + 1) / 2)), (0, .ref y0)]) hx hb d_Mo_acid_84 rfl hl (by decide) rfl (fun ls hl => ?_)
          refine lv_goto (tgt := 6) hx hb d_Mo_acid_85 (by decide) ?_
          exact ih6 lo ((((lo + hi) + 1) / 2) - 1) _ _ _ (by first | exact ac_lt1 hlo hhi c9 hm6 | exact ac_lt2 hlo hhi c9 hm6) (by first | assumption | exact ac_mid hlo hhi c9) (by first | assumption | exact ac_mid1 hlo hhi c9) (by rw [hF6]; simp only [f_Mo_acid_L6, if_neg c9, if_pos c49]) hP hD hS (lv_sub hl [4, 1, 0] rfl)
        · refine lv_iconst (v := 1) hx hb d_Mo_acid_52 (by decide) ?_
          refine lv_goto (tgt := 57) hx hb d_Mo_acid_53 (by decide) ?_
          refine lv_istore (lv' := [(7, .int 1), (5, .long (((lo + hi) + 1) / 2)), (0, .ref y0), (1, .long lo), (3, .long hi)]) hx hb d_Mo_acid_57 hl (by decide) rfl (fun ls hl => ?_)
          refine lv_iload hx hb d_Mo_acid_59 (lv_at hl 0 rfl) ?_
          refine lv_if_eq (tgt := 69) hx hb d_Mo_acid_61 (by decide) (fun c61 => ?_) (fun c61 => ?_)
          · exact absurd c61 (by decide)
          refine lv_lload hx hb d_Mo_acid_64 (lv_at hl 1 rfl) ?_
          refine lv_goto (tgt := 70) hx hb d_Mo_acid_66 (by decide) ?_
          refine lv_lstore_n (lv' := [(1, .long (((lo + hi) + 1) / 2)), (7, .int 1), (5, .long (((lo + hi) + 1) / 2)), (0, .ref y0), (3, .long hi)]) hx hb d_Mo_acid_70 rfl hl (by decide) rfl (fun ls hl => ?_)
          refine lv_iload hx hb d_Mo_acid_71 (lv_at hl 1 rfl) ?_
          refine lv_if_eq (tgt := 80) hx hb d_Mo_acid_73 (by decide) (fun c73 => ?_) (fun c73 => ?_)
          · exact absurd c73 (by decide)
          refine lv_lload_n hx hb d_Mo_acid_76 rfl (lv_at hl 4 rfl) ?_
          refine lv_goto (tgt := 84) hx hb d_Mo_acid_77 (by decide) ?_
          refine lv_lstore_n (lv' := [(3, .long hi), (1, .long (((lo + hi) + 1) / 2)), (7, .int 1), (5, .long (((lo + hi) + 1) / 2)), (0, .ref y0)]) hx hb d_Mo_acid_84 rfl hl (by decide) rfl (fun ls hl => ?_)
          refine lv_goto (tgt := 6) hx hb d_Mo_acid_85 (by decide) ?_
          exact ih6 (((lo + hi) + 1) / 2) hi _ _ _ (by first | exact ac_lt1 hlo hhi c9 hm6 | exact ac_lt2 hlo hhi c9 hm6) (by first | assumption | exact ac_mid hlo hhi c9) (by first | assumption | exact ac_mid1 hlo hhi c9) (by rw [hF6]; simp only [f_Mo_acid_L6, if_neg c9, if_neg c49]) hP hD hS (lv_sub hl [4, 1, 0] rfl)
  exact loop6 1000001 0 1000000 _ _ _ (by decide) (by decide) (by decide) rfl hP hD hS (lv_sub hl [2, 1, 0] rfl)
def f_Mo_sour_L2 (Mne : Int32) (Mac : Nat → Int64) (p1 : Int64) : Nat → Int32 → Int32
  | 0, _ => 0
  | n + 1, iv => if Mne ≤ iv then ((-1)) else (if (lg_cmp p1 0) < 0 then ((-1)) else (if (lg_cmp (Mac (Int32.toNatClampNeg iv)) p1) ≤ 0 then (f_Mo_sour_L2 Mne Mac p1 n (iv + 1)) else (iv)))
def f_Mo_sour (Mne : Int32) (Mac : Nat → Int64) (p1 : Int64) : Int32 := f_Mo_sour_L2 Mne Mac p1 10001 0
abbrev rm_Mo_sour : Room := { frames := 0, cells := 0, slots := 0, locals := 0 }
set_option maxHeartbeats 4000000 in
set_option maxRecDepth 100000 in
theorem c_Mo_sour (l : Launch) (dC : Nat → ClassId) (dI : Nat → Nat → Nat) (cI cL cZ : ClassId) (y0 eS eP eM eK eG eR eN eW eV eA eH eX eY eZ : Nat) (sz : Nat) (Mfe : Int32) (Mbo : Int64) (Mro : Int64) (Mus : Int32) (Mne : Int32) (Mca : Int64) (Mga : Int64) (Mgl : Int64) (Mfl : Int64) (Mst : Int64) (Mhp : Int32) (Mpl : Int32) (Mac : Nat → Int64) (p1 : Int64) (hne : vp_in Mne 10001) : Met l y_Mo_sour w_Mo_sour rm_Mo_sour (va_Pc [.ref y0, .long p1] (c_pre dC dI cI cL cZ [(y0, .inr (7, [.ref eS, .ref eP, .int Mfe, .ref eM, .ref eK, .ref eG, .ref eR, .long Mbo, .long Mro, .int Mus, .ref eN, .ref eW, .ref eV, .int Mne, .ref eA, .long Mca, .long Mga, .long Mgl, .long Mfl, .long Mst, .ref eH, .ref eX, .ref eY, .ref eZ, .int Mhp, .int Mpl])), (eA, .inl (cL, 10000, .inr (.inl Mac)))] sz)) (va_Qi (fun (r : Int32) (_ : Unit) => f_Mo_sour Mne Mac p1 = r) (c_post dC dI (fun (u : Unit) => [(y0, .inr (7, [.ref eS, .ref eP, .int Mfe, .ref eM, .ref eK, .ref eG, .ref eR, .long Mbo, .long Mro, .int Mus, .ref eN, .ref eW, .ref eV, .int Mne, .ref eA, .long Mca, .long Mga, .long Mgl, .long Mfl, .long Mst, .ref eH, .ref eX, .ref eY, .ref eZ, .int Mhp, .int Mpl])), (eA, .inl (cL, 10000, .inr (.inl Mac)))]) (va_A [(y0, .inr (7, [.ref eS, .ref eP, .int Mfe, .ref eM, .ref eK, .ref eG, .ref eR, .long Mbo, .long Mro, .int Mus, .ref eN, .ref eW, .ref eV, .int Mne, .ref eA, .long Mca, .long Mga, .long Mgl, .long Mfl, .long Mst, .ref eH, .ref eX, .ref eY, .ref eZ, .int Mhp, .int Mpl])), (eA, .inl (cL, 10000, .inr (.inl Mac)))] sz)) (va_A [(y0, .inr (7, [.ref eS, .ref eP, .int Mfe, .ref eM, .ref eK, .ref eG, .ref eR, .long Mbo, .long Mro, .int Mus, .ref eN, .ref eW, .ref eV, .int Mne, .ref eA, .long Mca, .long Mga, .long Mgl, .long Mfl, .long Mst, .ref eH, .ref eX, .ref eY, .ref eZ, .int Mhp, .int Mpl])), (eA, .inl (cL, 10000, .inr (.inl Mac)))] sz)) 0 0 (va_A [(y0, .inr (7, [.ref eS, .ref eP, .int Mfe, .ref eM, .ref eK, .ref eG, .ref eR, .long Mbo, .long Mro, .int Mus, .ref eN, .ref eW, .ref eV, .int Mne, .ref eA, .long Mca, .long Mga, .long Mgl, .long Mfl, .long Mst, .ref eH, .ref eX, .ref eY, .ref eZ, .int Mhp, .int Mpl])), (eA, .inl (cL, 10000, .inr (.inl Mac)))] sz) := by
  refine Met.ofW (cc := b_Mo_sour) (maxL := 4) (ret := (some .int)) (by decide) rfl ?_
  intro p e s m args below meth c s₁ B hml hv
  obtain ⟨rfl, hsz, hP, hK, hN, hD0⟩ := hv
  have hx := B.exec
  have hb := B.bytes
  have hr := B.returns
  have hts := atoms_spec (ws := w_Mo_sour) B.pre
  have hown : s.vm.findClass R_Mo = some m.cls := findClass_of_methodNamed B.named
  have hlocks := B.notSynchronized
  have hwg : ∀ w ∈ wg, w.before ([.ref y0, .long p1] : List Value).toArray s = true := fun w h => hts w (List.mem_cons_of_mem _ h)
  subst hsz
  have hD := hD0.self (sz := s.heap.size)
  generalize hAe : va_A [(y0, .inr (7, [.ref eS, .ref eP, .int Mfe, .ref eM, .ref eK, .ref eG, .ref eR, .long Mbo, .long Mro, .int Mus, .ref eN, .ref eW, .ref eV, .int Mne, .ref eA, .long Mca, .long Mga, .long Mgl, .long Mfl, .long Mst, .ref eH, .ref eX, .ref eY, .ref eZ, .int Mhp, .int Mpl])), (eA, .inl (cL, 10000, .inr (.inl Mac)))] s.heap.size = A at hD ⊢
  have hA : ∀ q : Nat, s.heap.size ≤ q → A q := fun q h => by rw [← hAe]; exact Or.inr h
  have hS : va_S A s.heap s.heap [] := va_S.rf
  have hP : va_P (dC, dI) vwCl [(y0, .inr (7, [.ref eS, .ref eP, .int Mfe, .ref eM, .ref eK, .ref eG, .ref eR, .long Mbo, .long Mro, .int Mus, .ref eN, .ref eW, .ref eV, .int Mne, .ref eA, .long Mca, .long Mga, .long Mgl, .long Mfl, .long Mst, .ref eH, .ref eX, .ref eY, .ref eZ, .int Mhp, .int Mpl])), (eA, .inl (cL, 10000, .inr (.inl Mac)))] s.heap := hP
  have hl := lv_entry ([.ref y0, .long p1]) (n := 4) (Nat.le_of_ble_eq_true rfl)
  rw [lg_entry_eq]
  generalize (lg_sl ([.ref y0, .long p1]) ++ List.replicate (4 - (lg_sl ([.ref y0, .long p1])).length) Slot.unset).toArray = ls at hl ⊢
  have hl : lv_has ls 4 [(0, .ref y0), (1, .long p1)] := hl
  refine lv_iconst (v := 0) hx hb d_Mo_sour_0 (by decide) ?_
  refine lv_istore_n (lv' := [(3, .int 0), (0, .ref y0), (1, .long p1)]) hx hb d_Mo_sour_1 rfl hl (by decide) rfl (fun ls hl => ?_)
  have loop2 : ∀ (n2 : Nat) (iv : Int32) (H2 : Heap) (locs : List Loc) (ls : Array Slot), 10000 - iv.toNatClampNeg < n2 → (vp_in iv 10001) → f_Mo_sour Mne Mac p1 = f_Mo_sour_L2 Mne Mac p1 n2 iv → va_P (dC, dI) vwCl [(y0, .inr (7, [.ref eS, .ref eP, .int Mfe, .ref eM, .ref eK, .ref eG, .ref eR, .long Mbo, .long Mro, .int Mus, .ref eN, .ref eW, .ref eV, .int Mne, .ref eA, .long Mca, .long Mga, .long Mgl, .long Mfl, .long Mst, .ref eH, .ref eX, .ref eY, .ref eZ, .int Mhp, .int Mpl])), (eA, .inl (cL, 10000, .inr (.inl Mac)))] H2 → va_D A [(y0, .inr (7, [.ref eS, .ref eP, .int Mfe, .ref eM, .ref eK, .ref eG, .ref eR, .long Mbo, .long Mro, .int Mus, .ref eN, .ref eW, .ref eV, .int Mne, .ref eA, .long Mca, .long Mga, .long Mgl, .long Mfl, .long Mst, .ref eH, .ref eX, .ref eY, .ref eZ, .int Mhp, .int Mpl])), (eA, .inl (cL, 10000, .inr (.inl Mac)))] → va_S A s.heap H2 locs → lv_has ls 4 [(0, .ref y0), (1, .long p1), (3, .int iv)] → W p l e (headSpec w_Mo_sour rm_Mo_sour).room s m ([.ref y0, .long p1] : List Value).toArray below meth c H2 locs 0 0 (MQ below (va_Qi (fun (r : Int32) (_ : Unit) => f_Mo_sour Mne Mac p1 = r) (c_post dC dI (fun (u : Unit) => [(y0, .inr (7, [.ref eS, .ref eP, .int Mfe, .ref eM, .ref eK, .ref eG, .ref eR, .long Mbo, .long Mro, .int Mus, .ref eN, .ref eW, .ref eV, .int Mne, .ref eA, .long Mca, .long Mga, .long Mgl, .long Mfl, .long Mst, .ref eH, .ref eX, .ref eY, .ref eZ, .int Mhp, .int Mpl])), (eA, .inl (cL, 10000, .inr (.inl Mac)))]) A) A) ([.ref y0, .long p1] : List Value).toArray s 0 0 A) (F0 m 2 ls []) := by
    intro n2
    induction n2 with
    | zero => intro iv H2 locs ls hm; exact absurd hm (Nat.not_lt_zero _)
    | succ n2 ih2 =>
      intro iv H2 locs ls hm2 hiv hF2 hP hD hS hl
      refine lv_iload_n hx hb d_Mo_sour_2 rfl (lv_at hl 2 rfl) ?_
      refine lv_aload_n hx hb d_Mo_sour_3 rfl (lv_at hl 0 rfl) ?_
      refine va_get (D := (dC, dI)) (ci := 7) (v := .int Mne) (C := R_Mo) (T := F_Mo) (N := 26) hx hb hwg iu_Mo hown hK hP 0 rfl rfl 13 (by decide) (hwg _ kw_335) (fun _ h9 => h9) rfl d_Mo_sour_4 ?_
      refine lv_icmp_ge (tgt := 35) hx hb d_Mo_sour_7 (by decide) (fun (c7 : Mne ≤ iv) => ?_) (fun (c7 : ¬ (Mne ≤ iv)) => ?_)
      · refine lv_iconst (v := (-1)) hx hb d_Mo_sour_35 (by decide) ?_
        have hP9 := hP.sub (ws' := [(y0, .inr (7, [.ref eS, .ref eP, .int Mfe, .ref eM, .ref eK, .ref eG, .ref eR, .long Mbo, .long Mro, .int Mus, .ref eN, .ref eW, .ref eV, .int Mne, .ref eA, .long Mca, .long Mga, .long Mgl, .long Mfl, .long Mst, .ref eH, .ref eX, .ref eY, .ref eZ, .int Mhp, .int Mpl])), (eA, .inl (cL, 10000, .inr (.inl Mac)))]) [0, 1] rfl
        have hD9 := hD.sub (ws' := [(y0, .inr (7, [.ref eS, .ref eP, .int Mfe, .ref eM, .ref eK, .ref eG, .ref eR, .long Mbo, .long Mro, .int Mus, .ref eN, .ref eW, .ref eV, .int Mne, .ref eA, .long Mca, .long Mga, .long Mgl, .long Mfl, .long Mst, .ref eH, .ref eX, .ref eY, .ref eZ, .int Mhp, .int Mpl])), (eA, .inl (cL, 10000, .inr (.inl Mac)))]) [0, 1] (by decide) rfl
        exact W.iret (v := (-1)) hx hb hr (fun t ht hW => ⟨⟨(-1), (), rfl, by rw [hF2]; simp only [f_Mo_sour_L2, if_pos c7], by rw [ht]; exact hP9, hD9⟩, hS.F ht⟩) hS.2.2 d_Mo_sour_36
      · refine lv_lload_n hx hb d_Mo_sour_10 rfl (lv_at hl 1 rfl) ?_
        refine lv_lconst (v := 0) hx hb d_Mo_sour_11 (by decide) ?_
        refine W.lcmp hx hb d_Mo_sour_12 ?_
        refine lv_if_lt (tgt := 35) hx hb d_Mo_sour_13 (by decide) (fun (c13 : (lg_cmp p1 0) < 0) => ?_) (fun (c13 : ¬ ((lg_cmp p1 0) < 0)) => ?_)
        · refine lv_iconst (v := (-1)) hx hb d_Mo_sour_35 (by decide) ?_
          have hP9 := hP.sub (ws' := [(y0, .inr (7, [.ref eS, .ref eP, .int Mfe, .ref eM, .ref eK, .ref eG, .ref eR, .long Mbo, .long Mro, .int Mus, .ref eN, .ref eW, .ref eV, .int Mne, .ref eA, .long Mca, .long Mga, .long Mgl, .long Mfl, .long Mst, .ref eH, .ref eX, .ref eY, .ref eZ, .int Mhp, .int Mpl])), (eA, .inl (cL, 10000, .inr (.inl Mac)))]) [0, 1] rfl
          have hD9 := hD.sub (ws' := [(y0, .inr (7, [.ref eS, .ref eP, .int Mfe, .ref eM, .ref eK, .ref eG, .ref eR, .long Mbo, .long Mro, .int Mus, .ref eN, .ref eW, .ref eV, .int Mne, .ref eA, .long Mca, .long Mga, .long Mgl, .long Mfl, .long Mst, .ref eH, .ref eX, .ref eY, .ref eZ, .int Mhp, .int Mpl])), (eA, .inl (cL, 10000, .inr (.inl Mac)))]) [0, 1] (by decide) rfl
          exact W.iret (v := (-1)) hx hb hr (fun t ht hW => ⟨⟨(-1), (), rfl, by rw [hF2]; simp only [f_Mo_sour_L2, if_neg c7, if_pos c13], by rw [ht]; exact hP9, hD9⟩, hS.F ht⟩) hS.2.2 d_Mo_sour_36
        · refine lv_aload_n hx hb d_Mo_sour_16 rfl (lv_at hl 0 rfl) ?_
          refine va_get (D := (dC, dI)) (ci := 7) (v := .ref eA) (C := R_Mo) (T := F_Mo) (N := 26) hx hb hwg iu_Mo hown hK hP 0 rfl rfl 14 (by decide) (hwg _ kw_336) (fun _ h9 => h9) rfl d_Mo_sour_17 ?_
          refine lv_iload_n hx hb d_Mo_sour_20 rfl (lv_at hl 2 rfl) ?_
          refine va_lald hx hb hK hP 1 1 rfl rfl (in_so hiv hne c7) d_Mo_sour_21 ?_
          refine lv_lload_n hx hb d_Mo_sour_22 rfl (lv_at hl 1 rfl) ?_
          refine W.lcmp hx hb d_Mo_sour_23 ?_
          refine lv_if_le (tgt := 29) hx hb d_Mo_sour_24 (by decide) (fun (c24 : (lg_cmp (Mac (Int32.toNatClampNeg iv)) p1) ≤ 0) => ?_) (fun (c24 : ¬ ((lg_cmp (Mac (Int32.toNatClampNeg iv)) p1) ≤ 0)) => ?_)
          · refine lv_iinc (v := iv + 1) (lv' := [(3, .int (iv + 1)), (0, .ref y0), (1, .long p1)]) hx hb d_Mo_sour_29 hl (k := 2) rfl rfl (by decide) rfl (fun ls hl => ?_)
            refine lv_goto (tgt := 2) hx hb d_Mo_sour_32 (by decide) ?_
            exact ih2 (iv + 1) _ _ _ (so_lt hiv hne c7 hm2) (in_son hiv hne c7) (by rw [hF2]; simp only [f_Mo_sour_L2, if_neg c7, if_neg c13, if_pos c24]) hP hD hS (lv_sub hl [1, 2, 0] rfl)
          · refine lv_iload_n hx hb d_Mo_sour_27 rfl (lv_at hl 2 rfl) ?_
            have hP9 := hP.sub (ws' := [(y0, .inr (7, [.ref eS, .ref eP, .int Mfe, .ref eM, .ref eK, .ref eG, .ref eR, .long Mbo, .long Mro, .int Mus, .ref eN, .ref eW, .ref eV, .int Mne, .ref eA, .long Mca, .long Mga, .long Mgl, .long Mfl, .long Mst, .ref eH, .ref eX, .ref eY, .ref eZ, .int Mhp, .int Mpl])), (eA, .inl (cL, 10000, .inr (.inl Mac)))]) [0, 1] rfl
            have hD9 := hD.sub (ws' := [(y0, .inr (7, [.ref eS, .ref eP, .int Mfe, .ref eM, .ref eK, .ref eG, .ref eR, .long Mbo, .long Mro, .int Mus, .ref eN, .ref eW, .ref eV, .int Mne, .ref eA, .long Mca, .long Mga, .long Mgl, .long Mfl, .long Mst, .ref eH, .ref eX, .ref eY, .ref eZ, .int Mhp, .int Mpl])), (eA, .inl (cL, 10000, .inr (.inl Mac)))]) [0, 1] (by decide) rfl
            exact W.iret (v := iv) hx hb hr (fun t ht hW => ⟨⟨iv, (), rfl, by rw [hF2]; simp only [f_Mo_sour_L2, if_neg c7, if_neg c13, if_neg c24], by rw [ht]; exact hP9, hD9⟩, hS.F ht⟩) hS.2.2 d_Mo_sour_28
  exact loop2 10001 0 _ _ _ (by decide) (by unfold vp_in; decide) rfl hP hD hS (lv_sub hl [1, 2, 0] rfl)
def f_Mo_load (Mhl : Nat → Int32) (Mlg : Nat → Int32) (Mlc : Nat → Int32) (Mlx : Nat → Int32) (p1 : Int32) (p2 : Int32) (p3 : Int32) (p4 : Int32) : Int32 × (Nat → Int32) × (Nat → Int32) × (Nat → Int32) × (Nat → Int32) := let r1 := f_Mo_isKind p1; if r1 = 0 then ((0, Mhl, Mlg, Mlc, Mlx)) else (let r13 := f_Mo_isIn (Int32.toInt64 p2) 1 100000; if r13 = 0 then ((0, Mhl, Mlg, Mlc, Mlx)) else (let r25 := f_Mo_isIn (Int32.toInt64 p3) 0 100000; if r25 = 0 then ((0, Mhl, Mlg, Mlc, Mlx)) else (let r38 := f_Mo_isIn (Int32.toInt64 p4) 0 100000; if r38 = 0 then ((0, Mhl, Mlg, Mlc, Mlx)) else ((1, upd Mhl (Int32.toNatClampNeg p1) 1, upd Mlg (Int32.toNatClampNeg p1) p2, upd Mlc (Int32.toNatClampNeg p1) p3, upd Mlx (Int32.toNatClampNeg p1) p4)))))
abbrev rm_Mo_load : Room := { frames := 1, cells := 0, slots := 0, locals := 25 }
set_option maxHeartbeats 4000000 in
set_option maxRecDepth 100000 in
theorem c_Mo_load (l : Launch) (dC : Nat → ClassId) (dI : Nat → Nat → Nat) (cI cL cZ : ClassId) (y0 eS eP eM eK eG eR eN eW eV eA eH eX eY eZ : Nat) (sz : Nat) (Mfe : Int32) (Mbo : Int64) (Mro : Int64) (Mus : Int32) (Mne : Int32) (Mca : Int64) (Mga : Int64) (Mgl : Int64) (Mfl : Int64) (Mst : Int64) (Mhp : Int32) (Mpl : Int32) (Mhl : Nat → Int32) (Mlg : Nat → Int32) (Mlc : Nat → Int32) (Mlx : Nat → Int32) (p1 : Int32) (p2 : Int32) (p3 : Int32) (p4 : Int32) : Met l y_Mo_load w_Mo_load rm_Mo_load (va_Pc [.ref y0, .int p1, .int p2, .int p3, .int p4] (c_pre dC dI cI cL cZ [(y0, .inr (7, [.ref eS, .ref eP, .int Mfe, .ref eM, .ref eK, .ref eG, .ref eR, .long Mbo, .long Mro, .int Mus, .ref eN, .ref eW, .ref eV, .int Mne, .ref eA, .long Mca, .long Mga, .long Mgl, .long Mfl, .long Mst, .ref eH, .ref eX, .ref eY, .ref eZ, .int Mhp, .int Mpl])), (eH, .inl (cZ, 4, .inl Mhl)), (eX, .inl (cI, 4, .inl Mlg)), (eY, .inl (cI, 4, .inl Mlc)), (eZ, .inl (cI, 4, .inl Mlx))] sz)) (va_Qi (fun (r : Int32) (u : (Nat → Int32) × (Nat → Int32) × (Nat → Int32) × (Nat → Int32)) => f_Mo_load Mhl Mlg Mlc Mlx p1 p2 p3 p4 = (r, u)) (c_post dC dI (fun (u : (Nat → Int32) × (Nat → Int32) × (Nat → Int32) × (Nat → Int32)) => [(y0, .inr (7, [.ref eS, .ref eP, .int Mfe, .ref eM, .ref eK, .ref eG, .ref eR, .long Mbo, .long Mro, .int Mus, .ref eN, .ref eW, .ref eV, .int Mne, .ref eA, .long Mca, .long Mga, .long Mgl, .long Mfl, .long Mst, .ref eH, .ref eX, .ref eY, .ref eZ, .int Mhp, .int Mpl])), (eH, .inl (cZ, 4, .inl u.1)), (eX, .inl (cI, 4, .inl u.2.1)), (eY, .inl (cI, 4, .inl u.2.2.1)), (eZ, .inl (cI, 4, .inl u.2.2.2))]) (va_A [(y0, .inr (7, [.ref eS, .ref eP, .int Mfe, .ref eM, .ref eK, .ref eG, .ref eR, .long Mbo, .long Mro, .int Mus, .ref eN, .ref eW, .ref eV, .int Mne, .ref eA, .long Mca, .long Mga, .long Mgl, .long Mfl, .long Mst, .ref eH, .ref eX, .ref eY, .ref eZ, .int Mhp, .int Mpl])), (eH, .inl (cZ, 4, .inl Mhl)), (eX, .inl (cI, 4, .inl Mlg)), (eY, .inl (cI, 4, .inl Mlc)), (eZ, .inl (cI, 4, .inl Mlx))] sz)) (va_A [(y0, .inr (7, [.ref eS, .ref eP, .int Mfe, .ref eM, .ref eK, .ref eG, .ref eR, .long Mbo, .long Mro, .int Mus, .ref eN, .ref eW, .ref eV, .int Mne, .ref eA, .long Mca, .long Mga, .long Mgl, .long Mfl, .long Mst, .ref eH, .ref eX, .ref eY, .ref eZ, .int Mhp, .int Mpl])), (eH, .inl (cZ, 4, .inl Mhl)), (eX, .inl (cI, 4, .inl Mlg)), (eY, .inl (cI, 4, .inl Mlc)), (eZ, .inl (cI, 4, .inl Mlx))] sz)) 0 0 (va_A [(y0, .inr (7, [.ref eS, .ref eP, .int Mfe, .ref eM, .ref eK, .ref eG, .ref eR, .long Mbo, .long Mro, .int Mus, .ref eN, .ref eW, .ref eV, .int Mne, .ref eA, .long Mca, .long Mga, .long Mgl, .long Mfl, .long Mst, .ref eH, .ref eX, .ref eY, .ref eZ, .int Mhp, .int Mpl])), (eH, .inl (cZ, 4, .inl Mhl)), (eX, .inl (cI, 4, .inl Mlg)), (eY, .inl (cI, 4, .inl Mlc)), (eZ, .inl (cI, 4, .inl Mlx))] sz) := by
  refine Met.ofW (cc := b_Mo_load) (maxL := 5) (ret := (some .boolean)) (by decide) rfl ?_
  intro p e s m args below meth c s₁ B hml hv
  obtain ⟨rfl, hsz, hP, hK, hN, hD0⟩ := hv
  have hx := B.exec
  have hb := B.bytes
  have hr := B.returns
  have hts := atoms_spec (ws := w_Mo_load) B.pre
  have hown : s.vm.findClass R_Mo = some m.cls := findClass_of_methodNamed B.named
  have hlocks := B.notSynchronized
  have hwg : ∀ w ∈ wg, w.before ([.ref y0, .int p1, .int p2, .int p3, .int p4] : List Value).toArray s = true := fun w h => hts w (List.mem_cons_of_mem _ h)
  subst hsz
  have hD := hD0.self (sz := s.heap.size)
  generalize hAe : va_A [(y0, .inr (7, [.ref eS, .ref eP, .int Mfe, .ref eM, .ref eK, .ref eG, .ref eR, .long Mbo, .long Mro, .int Mus, .ref eN, .ref eW, .ref eV, .int Mne, .ref eA, .long Mca, .long Mga, .long Mgl, .long Mfl, .long Mst, .ref eH, .ref eX, .ref eY, .ref eZ, .int Mhp, .int Mpl])), (eH, .inl (cZ, 4, .inl Mhl)), (eX, .inl (cI, 4, .inl Mlg)), (eY, .inl (cI, 4, .inl Mlc)), (eZ, .inl (cI, 4, .inl Mlx))] s.heap.size = A at hD ⊢
  have hA : ∀ q : Nat, s.heap.size ≤ q → A q := fun q h => by rw [← hAe]; exact Or.inr h
  have hS : va_S A s.heap s.heap [] := va_S.rf
  have hP : va_P (dC, dI) vwCl [(y0, .inr (7, [.ref eS, .ref eP, .int Mfe, .ref eM, .ref eK, .ref eG, .ref eR, .long Mbo, .long Mro, .int Mus, .ref eN, .ref eW, .ref eV, .int Mne, .ref eA, .long Mca, .long Mga, .long Mgl, .long Mfl, .long Mst, .ref eH, .ref eX, .ref eY, .ref eZ, .int Mhp, .int Mpl])), (eH, .inl (cZ, 4, .inl Mhl)), (eX, .inl (cI, 4, .inl Mlg)), (eY, .inl (cI, 4, .inl Mlc)), (eZ, .inl (cI, 4, .inl Mlx))] s.heap := hP
  have hl := lv_entry ([.ref y0, .int p1, .int p2, .int p3, .int p4]) (n := 5) (Nat.le_of_ble_eq_true rfl)
  rw [lg_entry_eq]
  generalize (lg_sl ([.ref y0, .int p1, .int p2, .int p3, .int p4]) ++ List.replicate (5 - (lg_sl ([.ref y0, .int p1, .int p2, .int p3, .int p4])).length) Slot.unset).toArray = ls at hl ⊢
  have hl : lv_has ls 5 [(0, .ref y0), (1, .int p1), (2, .int p2), (3, .int p3), (4, .int p4)] := hl
  refine lv_iload_n hx hb d_Mo_load_0 rfl (lv_at hl 1 rfl) ?_
  have hPc := hP.sub (ws' := []) [] rfl
  have hDc := hD.sub (ws' := []) [] (by decide) rfl
  refine k_calli hP hD hS hA [] [0, 1, 2, 3, 4] (wc := []) (wr := [(y0, .inr (7, [.ref eS, .ref eP, .int Mfe, .ref eM, .ref eK, .ref eG, .ref eR, .long Mbo, .long Mro, .int Mus, .ref eN, .ref eW, .ref eV, .int Mne, .ref eA, .long Mca, .long Mga, .long Mgl, .long Mfl, .long Mst, .ref eH, .ref eX, .ref eY, .ref eZ, .int Mhp, .int Mpl])), (eH, .inl (cZ, 4, .inl Mhl)), (eX, .inl (cI, 4, .inl Mlg)), (eY, .inl (cI, 4, .inl Mlc)), (eZ, .inl (cI, 4, .inl Mlx))]) rfl rfl (by decide) (by decide) (va_runS (As := [.int p1]) (rest := []) ⟨hx, hb, hml, hown, hwg⟩ (c_Mo_isKind l dC dI cI cL cZ s.heap.size p1) (va_cwS 1 hwg (g_S kw_353 kw_354 kw_21 kw_355) rfl rfl rfl (by decide +kernel) ⟨Nat.le_of_ble_eq_true rfl, Nat.le_of_ble_eq_true rfl⟩) ⟨c_pre_call, c_pre_mk hPc hDc hK hN _⟩ rfl rfl hl.1 rfl (lv_room (Nat.le_of_ble_eq_true rfl)) d_Mo_load_1 ⟨Nat.le_of_ble_eq_true rfl, Nat.le_of_ble_eq_true rfl⟩) (fun r1 u H1 locs w1 hz1 hP hD hS => ?_)
  have hP := hP.sub (ws' := [(y0, .inr (7, [.ref eS, .ref eP, .int Mfe, .ref eM, .ref eK, .ref eG, .ref eR, .long Mbo, .long Mro, .int Mus, .ref eN, .ref eW, .ref eV, .int Mne, .ref eA, .long Mca, .long Mga, .long Mgl, .long Mfl, .long Mst, .ref eH, .ref eX, .ref eY, .ref eZ, .int Mhp, .int Mpl])), (eH, .inl (cZ, 4, .inl Mhl)), (eX, .inl (cI, 4, .inl Mlg)), (eY, .inl (cI, 4, .inl Mlc)), (eZ, .inl (cI, 4, .inl Mlx))]) [0, 1, 2, 3, 4] rfl
  have hD := hD.sub (ws' := [(y0, .inr (7, [.ref eS, .ref eP, .int Mfe, .ref eM, .ref eK, .ref eG, .ref eR, .long Mbo, .long Mro, .int Mus, .ref eN, .ref eW, .ref eV, .int Mne, .ref eA, .long Mca, .long Mga, .long Mgl, .long Mfl, .long Mst, .ref eH, .ref eX, .ref eY, .ref eZ, .int Mhp, .int Mpl])), (eH, .inl (cZ, 4, .inl Mhl)), (eX, .inl (cI, 4, .inl Mlg)), (eY, .inl (cI, 4, .inl Mlc)), (eZ, .inl (cI, 4, .inl Mlx))]) [0, 1, 2, 3, 4] (by decide) rfl
  refine lv_if_eq (tgt := 44) hx hb d_Mo_load_4 (by decide) (fun (c4 : r1 = 0) => ?_) (fun (c4 : ¬ (r1 = 0)) => ?_)
  · refine lv_iconst (v := 0) hx hb d_Mo_load_44 (by decide) ?_
    have hP9 := hP.sub (ws' := [(y0, .inr (7, [.ref eS, .ref eP, .int Mfe, .ref eM, .ref eK, .ref eG, .ref eR, .long Mbo, .long Mro, .int Mus, .ref eN, .ref eW, .ref eV, .int Mne, .ref eA, .long Mca, .long Mga, .long Mgl, .long Mfl, .long Mst, .ref eH, .ref eX, .ref eY, .ref eZ, .int Mhp, .int Mpl])), (eH, .inl (cZ, 4, .inl Mhl)), (eX, .inl (cI, 4, .inl Mlg)), (eY, .inl (cI, 4, .inl Mlc)), (eZ, .inl (cI, 4, .inl Mlx))]) [0, 1, 2, 3, 4] rfl
    have hD9 := hD.sub (ws' := [(y0, .inr (7, [.ref eS, .ref eP, .int Mfe, .ref eM, .ref eK, .ref eG, .ref eR, .long Mbo, .long Mro, .int Mus, .ref eN, .ref eW, .ref eV, .int Mne, .ref eA, .long Mca, .long Mga, .long Mgl, .long Mfl, .long Mst, .ref eH, .ref eX, .ref eY, .ref eZ, .int Mhp, .int Mpl])), (eH, .inl (cZ, 4, .inl Mhl)), (eX, .inl (cI, 4, .inl Mlg)), (eY, .inl (cI, 4, .inl Mlc)), (eZ, .inl (cI, 4, .inl Mlx))]) [0, 1, 2, 3, 4] (by decide) rfl
    exact W.zret (ty := .boolean) (v := 0) hx hb hr rfl (fun t ht hW => ⟨⟨0, (Mhl, Mlg, Mlc, Mlx), rfl, by simp only [f_Mo_load, w1, if_pos c4], by rw [ht]; exact hP9, hD9⟩, hS.F ht⟩) hS.2.2 d_Mo_load_45
  · refine lv_iload_n hx hb d_Mo_load_7 rfl (lv_at hl 2 rfl) ?_
    refine lv_i2l hx hb d_Mo_load_8 rfl ?_
    refine lv_lconst (v := 1) hx hb d_Mo_load_9 (by decide) ?_
    refine lv_ldc2 hx hb hown (hwg _ kw_372) d_Mo_load_10 ?_
    have hPc := hP.sub (ws' := []) [] rfl
    have hDc := hD.sub (ws' := []) [] (by decide) rfl
    refine k_calli hP hD hS hA [] [0, 1, 2, 3, 4] (wc := []) (wr := [(y0, .inr (7, [.ref eS, .ref eP, .int Mfe, .ref eM, .ref eK, .ref eG, .ref eR, .long Mbo, .long Mro, .int Mus, .ref eN, .ref eW, .ref eV, .int Mne, .ref eA, .long Mca, .long Mga, .long Mgl, .long Mfl, .long Mst, .ref eH, .ref eX, .ref eY, .ref eZ, .int Mhp, .int Mpl])), (eH, .inl (cZ, 4, .inl Mhl)), (eX, .inl (cI, 4, .inl Mlg)), (eY, .inl (cI, 4, .inl Mlc)), (eZ, .inl (cI, 4, .inl Mlx))]) rfl rfl (by decide) (by decide) (va_runS (As := [.long (Int32.toInt64 p2), .long 1, .long 100000]) (rest := []) ⟨hx, hb, hml, hown, hwg⟩ (c_Mo_isIn l dC dI cI cL cZ H1.size (Int32.toInt64 p2) 1 100000) (va_cwS 3 hwg (g_S kw_357 kw_358 kw_21 kw_359) rfl rfl rfl (by decide +kernel) ⟨Nat.le_of_ble_eq_true rfl, Nat.le_of_ble_eq_true rfl⟩) ⟨c_pre_call, c_pre_mk hPc hDc hK hN _⟩ rfl rfl hl.1 rfl (lv_room (Nat.le_of_ble_eq_true rfl)) d_Mo_load_13 ⟨Nat.le_of_ble_eq_true rfl, Nat.le_of_ble_eq_true rfl⟩) (fun r13 u H13 locs w13 hz1 hP hD hS => ?_)
    have hP := hP.sub (ws' := [(y0, .inr (7, [.ref eS, .ref eP, .int Mfe, .ref eM, .ref eK, .ref eG, .ref eR, .long Mbo, .long Mro, .int Mus, .ref eN, .ref eW, .ref eV, .int Mne, .ref eA, .long Mca, .long Mga, .long Mgl, .long Mfl, .long Mst, .ref eH, .ref eX, .ref eY, .ref eZ, .int Mhp, .int Mpl])), (eH, .inl (cZ, 4, .inl Mhl)), (eX, .inl (cI, 4, .inl Mlg)), (eY, .inl (cI, 4, .inl Mlc)), (eZ, .inl (cI, 4, .inl Mlx))]) [0, 1, 2, 3, 4] rfl
    have hD := hD.sub (ws' := [(y0, .inr (7, [.ref eS, .ref eP, .int Mfe, .ref eM, .ref eK, .ref eG, .ref eR, .long Mbo, .long Mro, .int Mus, .ref eN, .ref eW, .ref eV, .int Mne, .ref eA, .long Mca, .long Mga, .long Mgl, .long Mfl, .long Mst, .ref eH, .ref eX, .ref eY, .ref eZ, .int Mhp, .int Mpl])), (eH, .inl (cZ, 4, .inl Mhl)), (eX, .inl (cI, 4, .inl Mlg)), (eY, .inl (cI, 4, .inl Mlc)), (eZ, .inl (cI, 4, .inl Mlx))]) [0, 1, 2, 3, 4] (by decide) rfl
    refine lv_if_eq (tgt := 44) hx hb d_Mo_load_16 (by decide) (fun (c16 : r13 = 0) => ?_) (fun (c16 : ¬ (r13 = 0)) => ?_)
    · refine lv_iconst (v := 0) hx hb d_Mo_load_44 (by decide) ?_
      have hP9 := hP.sub (ws' := [(y0, .inr (7, [.ref eS, .ref eP, .int Mfe, .ref eM, .ref eK, .ref eG, .ref eR, .long Mbo, .long Mro, .int Mus, .ref eN, .ref eW, .ref eV, .int Mne, .ref eA, .long Mca, .long Mga, .long Mgl, .long Mfl, .long Mst, .ref eH, .ref eX, .ref eY, .ref eZ, .int Mhp, .int Mpl])), (eH, .inl (cZ, 4, .inl Mhl)), (eX, .inl (cI, 4, .inl Mlg)), (eY, .inl (cI, 4, .inl Mlc)), (eZ, .inl (cI, 4, .inl Mlx))]) [0, 1, 2, 3, 4] rfl
      have hD9 := hD.sub (ws' := [(y0, .inr (7, [.ref eS, .ref eP, .int Mfe, .ref eM, .ref eK, .ref eG, .ref eR, .long Mbo, .long Mro, .int Mus, .ref eN, .ref eW, .ref eV, .int Mne, .ref eA, .long Mca, .long Mga, .long Mgl, .long Mfl, .long Mst, .ref eH, .ref eX, .ref eY, .ref eZ, .int Mhp, .int Mpl])), (eH, .inl (cZ, 4, .inl Mhl)), (eX, .inl (cI, 4, .inl Mlg)), (eY, .inl (cI, 4, .inl Mlc)), (eZ, .inl (cI, 4, .inl Mlx))]) [0, 1, 2, 3, 4] (by decide) rfl
      exact W.zret (ty := .boolean) (v := 0) hx hb hr rfl (fun t ht hW => ⟨⟨0, (Mhl, Mlg, Mlc, Mlx), rfl, by simp only [f_Mo_load, w1, if_neg c4, w13, if_pos c16], by rw [ht]; exact hP9, hD9⟩, hS.F ht⟩) hS.2.2 d_Mo_load_45
    · refine lv_iload_n hx hb d_Mo_load_19 rfl (lv_at hl 3 rfl) ?_
      refine lv_i2l hx hb d_Mo_load_20 rfl ?_
      refine lv_lconst (v := 0) hx hb d_Mo_load_21 (by decide) ?_
      refine lv_ldc2 hx hb hown (hwg _ kw_372) d_Mo_load_22 ?_
      have hPc := hP.sub (ws' := []) [] rfl
      have hDc := hD.sub (ws' := []) [] (by decide) rfl
      refine k_calli hP hD hS hA [] [0, 1, 2, 3, 4] (wc := []) (wr := [(y0, .inr (7, [.ref eS, .ref eP, .int Mfe, .ref eM, .ref eK, .ref eG, .ref eR, .long Mbo, .long Mro, .int Mus, .ref eN, .ref eW, .ref eV, .int Mne, .ref eA, .long Mca, .long Mga, .long Mgl, .long Mfl, .long Mst, .ref eH, .ref eX, .ref eY, .ref eZ, .int Mhp, .int Mpl])), (eH, .inl (cZ, 4, .inl Mhl)), (eX, .inl (cI, 4, .inl Mlg)), (eY, .inl (cI, 4, .inl Mlc)), (eZ, .inl (cI, 4, .inl Mlx))]) rfl rfl (by decide) (by decide) (va_runS (As := [.long (Int32.toInt64 p3), .long 0, .long 100000]) (rest := []) ⟨hx, hb, hml, hown, hwg⟩ (c_Mo_isIn l dC dI cI cL cZ H13.size (Int32.toInt64 p3) 0 100000) (va_cwS 3 hwg (g_S kw_357 kw_358 kw_21 kw_359) rfl rfl rfl (by decide +kernel) ⟨Nat.le_of_ble_eq_true rfl, Nat.le_of_ble_eq_true rfl⟩) ⟨c_pre_call, c_pre_mk hPc hDc hK hN _⟩ rfl rfl hl.1 rfl (lv_room (Nat.le_of_ble_eq_true rfl)) d_Mo_load_25 ⟨Nat.le_of_ble_eq_true rfl, Nat.le_of_ble_eq_true rfl⟩) (fun r25 u H25 locs w25 hz1 hP hD hS => ?_)
      have hP := hP.sub (ws' := [(y0, .inr (7, [.ref eS, .ref eP, .int Mfe, .ref eM, .ref eK, .ref eG, .ref eR, .long Mbo, .long Mro, .int Mus, .ref eN, .ref eW, .ref eV, .int Mne, .ref eA, .long Mca, .long Mga, .long Mgl, .long Mfl, .long Mst, .ref eH, .ref eX, .ref eY, .ref eZ, .int Mhp, .int Mpl])), (eH, .inl (cZ, 4, .inl Mhl)), (eX, .inl (cI, 4, .inl Mlg)), (eY, .inl (cI, 4, .inl Mlc)), (eZ, .inl (cI, 4, .inl Mlx))]) [0, 1, 2, 3, 4] rfl
      have hD := hD.sub (ws' := [(y0, .inr (7, [.ref eS, .ref eP, .int Mfe, .ref eM, .ref eK, .ref eG, .ref eR, .long Mbo, .long Mro, .int Mus, .ref eN, .ref eW, .ref eV, .int Mne, .ref eA, .long Mca, .long Mga, .long Mgl, .long Mfl, .long Mst, .ref eH, .ref eX, .ref eY, .ref eZ, .int Mhp, .int Mpl])), (eH, .inl (cZ, 4, .inl Mhl)), (eX, .inl (cI, 4, .inl Mlg)), (eY, .inl (cI, 4, .inl Mlc)), (eZ, .inl (cI, 4, .inl Mlx))]) [0, 1, 2, 3, 4] (by decide) rfl
      refine lv_if_eq (tgt := 44) hx hb d_Mo_load_28 (by decide) (fun (c28 : r25 = 0) => ?_) (fun (c28 : ¬ (r25 = 0)) => ?_)
      · refine lv_iconst (v := 0) hx hb d_Mo_load_44 (by decide) ?_
        have hP9 := hP.sub (ws' := [(y0, .inr (7, [.ref eS, .ref eP, .int Mfe, .ref eM, .ref eK, .ref eG, .ref eR, .long Mbo, .long Mro, .int Mus, .ref eN, .ref eW, .ref eV, .int Mne, .ref eA, .long Mca, .long Mga, .long Mgl, .long Mfl, .long Mst, .ref eH, .ref eX, .ref eY, .ref eZ, .int Mhp, .int Mpl])), (eH, .inl (cZ, 4, .inl Mhl)), (eX, .inl (cI, 4, .inl Mlg)), (eY, .inl (cI, 4, .inl Mlc)), (eZ, .inl (cI, 4, .inl Mlx))]) [0, 1, 2, 3, 4] rfl
        have hD9 := hD.sub (ws' := [(y0, .inr (7, [.ref eS, .ref eP, .int Mfe, .ref eM, .ref eK, .ref eG, .ref eR, .long Mbo, .long Mro, .int Mus, .ref eN, .ref eW, .ref eV, .int Mne, .ref eA, .long Mca, .long Mga, .long Mgl, .long Mfl, .long Mst, .ref eH, .ref eX, .ref eY, .ref eZ, .int Mhp, .int Mpl])), (eH, .inl (cZ, 4, .inl Mhl)), (eX, .inl (cI, 4, .inl Mlg)), (eY, .inl (cI, 4, .inl Mlc)), (eZ, .inl (cI, 4, .inl Mlx))]) [0, 1, 2, 3, 4] (by decide) rfl
        exact W.zret (ty := .boolean) (v := 0) hx hb hr rfl (fun t ht hW => ⟨⟨0, (Mhl, Mlg, Mlc, Mlx), rfl, by simp only [f_Mo_load, w1, if_neg c4, w13, if_neg c16, w25, if_pos c28], by rw [ht]; exact hP9, hD9⟩, hS.F ht⟩) hS.2.2 d_Mo_load_45
      · refine lv_iload hx hb d_Mo_load_31 (lv_at hl 4 rfl) ?_
        refine lv_i2l hx hb d_Mo_load_33 rfl ?_
        refine lv_lconst (v := 0) hx hb d_Mo_load_34 (by decide) ?_
        refine lv_ldc2 hx hb hown (hwg _ kw_372) d_Mo_load_35 ?_
        have hPc := hP.sub (ws' := []) [] rfl
        have hDc := hD.sub (ws' := []) [] (by decide) rfl
        refine k_calli hP hD hS hA [] [0, 1, 2, 3, 4] (wc := []) (wr := [(y0, .inr (7, [.ref eS, .ref eP, .int Mfe, .ref eM, .ref eK, .ref eG, .ref eR, .long Mbo, .long Mro, .int Mus, .ref eN, .ref eW, .ref eV, .int Mne, .ref eA, .long Mca, .long Mga, .long Mgl, .long Mfl, .long Mst, .ref eH, .ref eX, .ref eY, .ref eZ, .int Mhp, .int Mpl])), (eH, .inl (cZ, 4, .inl Mhl)), (eX, .inl (cI, 4, .inl Mlg)), (eY, .inl (cI, 4, .inl Mlc)), (eZ, .inl (cI, 4, .inl Mlx))]) rfl rfl (by decide) (by decide) (va_runS (As := [.long (Int32.toInt64 p4), .long 0, .long 100000]) (rest := []) ⟨hx, hb, hml, hown, hwg⟩ (c_Mo_isIn l dC dI cI cL cZ H25.size (Int32.toInt64 p4) 0 100000) (va_cwS 3 hwg (g_S kw_357 kw_358 kw_21 kw_359) rfl rfl rfl (by decide +kernel) ⟨Nat.le_of_ble_eq_true rfl, Nat.le_of_ble_eq_true rfl⟩) ⟨c_pre_call, c_pre_mk hPc hDc hK hN _⟩ rfl rfl hl.1 rfl (lv_room (Nat.le_of_ble_eq_true rfl)) d_Mo_load_38 ⟨Nat.le_of_ble_eq_true rfl, Nat.le_of_ble_eq_true rfl⟩) (fun r38 u H38 locs w38 hz1 hP hD hS => ?_)
        have hP := hP.sub (ws' := [(y0, .inr (7, [.ref eS, .ref eP, .int Mfe, .ref eM, .ref eK, .ref eG, .ref eR, .long Mbo, .long Mro, .int Mus, .ref eN, .ref eW, .ref eV, .int Mne, .ref eA, .long Mca, .long Mga, .long Mgl, .long Mfl, .long Mst, .ref eH, .ref eX, .ref eY, .ref eZ, .int Mhp, .int Mpl])), (eH, .inl (cZ, 4, .inl Mhl)), (eX, .inl (cI, 4, .inl Mlg)), (eY, .inl (cI, 4, .inl Mlc)), (eZ, .inl (cI, 4, .inl Mlx))]) [0, 1, 2, 3, 4] rfl
        have hD := hD.sub (ws' := [(y0, .inr (7, [.ref eS, .ref eP, .int Mfe, .ref eM, .ref eK, .ref eG, .ref eR, .long Mbo, .long Mro, .int Mus, .ref eN, .ref eW, .ref eV, .int Mne, .ref eA, .long Mca, .long Mga, .long Mgl, .long Mfl, .long Mst, .ref eH, .ref eX, .ref eY, .ref eZ, .int Mhp, .int Mpl])), (eH, .inl (cZ, 4, .inl Mhl)), (eX, .inl (cI, 4, .inl Mlg)), (eY, .inl (cI, 4, .inl Mlc)), (eZ, .inl (cI, 4, .inl Mlx))]) [0, 1, 2, 3, 4] (by decide) rfl
        refine lv_if_ne (tgt := 46) hx hb d_Mo_load_41 (by decide) (fun (c41 : ¬ (r38 = 0)) => ?_) (fun (c41 : r38 = 0) => ?_)
        · refine lv_aload_n hx hb d_Mo_load_46 rfl (lv_at hl 0 rfl) ?_
          refine va_get (D := (dC, dI)) (ci := 7) (v := .ref eH) (C := R_Mo) (T := F_Mo) (N := 26) hx hb hwg iu_Mo hown hK hP 0 rfl rfl 20 (by decide) (hwg _ kw_342) (fun _ h9 => h9) rfl d_Mo_load_47 ?_
          refine lv_iload_n hx hb d_Mo_load_50 rfl (lv_at hl 1 rfl) ?_
          refine lv_iconst (v := 1) hx hb d_Mo_load_51 (by decide) ?_
          refine va_zast hx hb hK hP hD hS 1 2 rfl rfl (in_mKind w1 c4) d_Mo_load_52 (fun H52 locs hP hD hS => ?_)
          have hP : va_P (dC, dI) vwCl [(y0, .inr (7, [.ref eS, .ref eP, .int Mfe, .ref eM, .ref eK, .ref eG, .ref eR, .long Mbo, .long Mro, .int Mus, .ref eN, .ref eW, .ref eV, .int Mne, .ref eA, .long Mca, .long Mga, .long Mgl, .long Mfl, .long Mst, .ref eH, .ref eX, .ref eY, .ref eZ, .int Mhp, .int Mpl])), (eH, .inl (cZ, 4, .inl (upd Mhl (Int32.toNatClampNeg p1) 1))), (eX, .inl (cI, 4, .inl Mlg)), (eY, .inl (cI, 4, .inl Mlc)), (eZ, .inl (cI, 4, .inl Mlx))] H52 := hP
          have hD : va_D A [(y0, .inr (7, [.ref eS, .ref eP, .int Mfe, .ref eM, .ref eK, .ref eG, .ref eR, .long Mbo, .long Mro, .int Mus, .ref eN, .ref eW, .ref eV, .int Mne, .ref eA, .long Mca, .long Mga, .long Mgl, .long Mfl, .long Mst, .ref eH, .ref eX, .ref eY, .ref eZ, .int Mhp, .int Mpl])), (eH, .inl (cZ, 4, .inl (upd Mhl (Int32.toNatClampNeg p1) 1))), (eX, .inl (cI, 4, .inl Mlg)), (eY, .inl (cI, 4, .inl Mlc)), (eZ, .inl (cI, 4, .inl Mlx))] := hD
          refine lv_aload_n hx hb d_Mo_load_53 rfl (lv_at hl 0 rfl) ?_
          refine va_get (D := (dC, dI)) (ci := 7) (v := .ref eX) (C := R_Mo) (T := F_Mo) (N := 26) hx hb hwg iu_Mo hown hK hP 0 rfl rfl 21 (by decide) (hwg _ kw_343) (fun _ h9 => h9) rfl d_Mo_load_54 ?_
          refine lv_iload_n hx hb d_Mo_load_57 rfl (lv_at hl 1 rfl) ?_
          refine lv_iload_n hx hb d_Mo_load_58 rfl (lv_at hl 2 rfl) ?_
          refine va_iast hx hb hK hP hD hS 2 0 rfl rfl (in_mKind w1 c4) d_Mo_load_59 (fun H59 locs hP hD hS => ?_)
          have hP : va_P (dC, dI) vwCl [(y0, .inr (7, [.ref eS, .ref eP, .int Mfe, .ref eM, .ref eK, .ref eG, .ref eR, .long Mbo, .long Mro, .int Mus, .ref eN, .ref eW, .ref eV, .int Mne, .ref eA, .long Mca, .long Mga, .long Mgl, .long Mfl, .long Mst, .ref eH, .ref eX, .ref eY, .ref eZ, .int Mhp, .int Mpl])), (eH, .inl (cZ, 4, .inl (upd Mhl (Int32.toNatClampNeg p1) 1))), (eX, .inl (cI, 4, .inl (upd Mlg (Int32.toNatClampNeg p1) p2))), (eY, .inl (cI, 4, .inl Mlc)), (eZ, .inl (cI, 4, .inl Mlx))] H59 := hP
          have hD : va_D A [(y0, .inr (7, [.ref eS, .ref eP, .int Mfe, .ref eM, .ref eK, .ref eG, .ref eR, .long Mbo, .long Mro, .int Mus, .ref eN, .ref eW, .ref eV, .int Mne, .ref eA, .long Mca, .long Mga, .long Mgl, .long Mfl, .long Mst, .ref eH, .ref eX, .ref eY, .ref eZ, .int Mhp, .int Mpl])), (eH, .inl (cZ, 4, .inl (upd Mhl (Int32.toNatClampNeg p1) 1))), (eX, .inl (cI, 4, .inl (upd Mlg (Int32.toNatClampNeg p1) p2))), (eY, .inl (cI, 4, .inl Mlc)), (eZ, .inl (cI, 4, .inl Mlx))] := hD
          refine lv_aload_n hx hb d_Mo_load_60 rfl (lv_at hl 0 rfl) ?_
          refine va_get (D := (dC, dI)) (ci := 7) (v := .ref eY) (C := R_Mo) (T := F_Mo) (N := 26) hx hb hwg iu_Mo hown hK hP 0 rfl rfl 22 (by decide) (hwg _ kw_344) (fun _ h9 => h9) rfl d_Mo_load_61 ?_
          refine lv_iload_n hx hb d_Mo_load_64 rfl (lv_at hl 1 rfl) ?_
          refine lv_iload_n hx hb d_Mo_load_65 rfl (lv_at hl 3 rfl) ?_
          refine va_iast hx hb hK hP hD hS 3 0 rfl rfl (in_mKind w1 c4) d_Mo_load_66 (fun H66 locs hP hD hS => ?_)
          have hP : va_P (dC, dI) vwCl [(y0, .inr (7, [.ref eS, .ref eP, .int Mfe, .ref eM, .ref eK, .ref eG, .ref eR, .long Mbo, .long Mro, .int Mus, .ref eN, .ref eW, .ref eV, .int Mne, .ref eA, .long Mca, .long Mga, .long Mgl, .long Mfl, .long Mst, .ref eH, .ref eX, .ref eY, .ref eZ, .int Mhp, .int Mpl])), (eH, .inl (cZ, 4, .inl (upd Mhl (Int32.toNatClampNeg p1) 1))), (eX, .inl (cI, 4, .inl (upd Mlg (Int32.toNatClampNeg p1) p2))), (eY, .inl (cI, 4, .inl (upd Mlc (Int32.toNatClampNeg p1) p3))), (eZ, .inl (cI, 4, .inl Mlx))] H66 := hP
          have hD : va_D A [(y0, .inr (7, [.ref eS, .ref eP, .int Mfe, .ref eM, .ref eK, .ref eG, .ref eR, .long Mbo, .long Mro, .int Mus, .ref eN, .ref eW, .ref eV, .int Mne, .ref eA, .long Mca, .long Mga, .long Mgl, .long Mfl, .long Mst, .ref eH, .ref eX, .ref eY, .ref eZ, .int Mhp, .int Mpl])), (eH, .inl (cZ, 4, .inl (upd Mhl (Int32.toNatClampNeg p1) 1))), (eX, .inl (cI, 4, .inl (upd Mlg (Int32.toNatClampNeg p1) p2))), (eY, .inl (cI, 4, .inl (upd Mlc (Int32.toNatClampNeg p1) p3))), (eZ, .inl (cI, 4, .inl Mlx))] := hD
          refine lv_aload_n hx hb d_Mo_load_67 rfl (lv_at hl 0 rfl) ?_
          refine va_get (D := (dC, dI)) (ci := 7) (v := .ref eZ) (C := R_Mo) (T := F_Mo) (N := 26) hx hb hwg iu_Mo hown hK hP 0 rfl rfl 23 (by decide) (hwg _ kw_345) (fun _ h9 => h9) rfl d_Mo_load_68 ?_
          refine lv_iload_n hx hb d_Mo_load_71 rfl (lv_at hl 1 rfl) ?_
          refine lv_iload hx hb d_Mo_load_72 (lv_at hl 4 rfl) ?_
          refine va_iast hx hb hK hP hD hS 4 0 rfl rfl (in_mKind w1 c4) d_Mo_load_74 (fun H74 locs hP hD hS => ?_)
          have hP : va_P (dC, dI) vwCl [(y0, .inr (7, [.ref eS, .ref eP, .int Mfe, .ref eM, .ref eK, .ref eG, .ref eR, .long Mbo, .long Mro, .int Mus, .ref eN, .ref eW, .ref eV, .int Mne, .ref eA, .long Mca, .long Mga, .long Mgl, .long Mfl, .long Mst, .ref eH, .ref eX, .ref eY, .ref eZ, .int Mhp, .int Mpl])), (eH, .inl (cZ, 4, .inl (upd Mhl (Int32.toNatClampNeg p1) 1))), (eX, .inl (cI, 4, .inl (upd Mlg (Int32.toNatClampNeg p1) p2))), (eY, .inl (cI, 4, .inl (upd Mlc (Int32.toNatClampNeg p1) p3))), (eZ, .inl (cI, 4, .inl (upd Mlx (Int32.toNatClampNeg p1) p4)))] H74 := hP
          have hD : va_D A [(y0, .inr (7, [.ref eS, .ref eP, .int Mfe, .ref eM, .ref eK, .ref eG, .ref eR, .long Mbo, .long Mro, .int Mus, .ref eN, .ref eW, .ref eV, .int Mne, .ref eA, .long Mca, .long Mga, .long Mgl, .long Mfl, .long Mst, .ref eH, .ref eX, .ref eY, .ref eZ, .int Mhp, .int Mpl])), (eH, .inl (cZ, 4, .inl (upd Mhl (Int32.toNatClampNeg p1) 1))), (eX, .inl (cI, 4, .inl (upd Mlg (Int32.toNatClampNeg p1) p2))), (eY, .inl (cI, 4, .inl (upd Mlc (Int32.toNatClampNeg p1) p3))), (eZ, .inl (cI, 4, .inl (upd Mlx (Int32.toNatClampNeg p1) p4)))] := hD
          refine lv_iconst (v := 1) hx hb d_Mo_load_75 (by decide) ?_
          have hP9 := hP.sub (ws' := [(y0, .inr (7, [.ref eS, .ref eP, .int Mfe, .ref eM, .ref eK, .ref eG, .ref eR, .long Mbo, .long Mro, .int Mus, .ref eN, .ref eW, .ref eV, .int Mne, .ref eA, .long Mca, .long Mga, .long Mgl, .long Mfl, .long Mst, .ref eH, .ref eX, .ref eY, .ref eZ, .int Mhp, .int Mpl])), (eH, .inl (cZ, 4, .inl (upd Mhl (Int32.toNatClampNeg p1) 1))), (eX, .inl (cI, 4, .inl (upd Mlg (Int32.toNatClampNeg p1) p2))), (eY, .inl (cI, 4, .inl (upd Mlc (Int32.toNatClampNeg p1) p3))), (eZ, .inl (cI, 4, .inl (upd Mlx (Int32.toNatClampNeg p1) p4)))]) [0, 1, 2, 3, 4] rfl
          have hD9 := hD.sub (ws' := [(y0, .inr (7, [.ref eS, .ref eP, .int Mfe, .ref eM, .ref eK, .ref eG, .ref eR, .long Mbo, .long Mro, .int Mus, .ref eN, .ref eW, .ref eV, .int Mne, .ref eA, .long Mca, .long Mga, .long Mgl, .long Mfl, .long Mst, .ref eH, .ref eX, .ref eY, .ref eZ, .int Mhp, .int Mpl])), (eH, .inl (cZ, 4, .inl (upd Mhl (Int32.toNatClampNeg p1) 1))), (eX, .inl (cI, 4, .inl (upd Mlg (Int32.toNatClampNeg p1) p2))), (eY, .inl (cI, 4, .inl (upd Mlc (Int32.toNatClampNeg p1) p3))), (eZ, .inl (cI, 4, .inl (upd Mlx (Int32.toNatClampNeg p1) p4)))]) [0, 1, 2, 3, 4] (by decide) rfl
          exact W.zret (ty := .boolean) (v := 1) hx hb hr rfl (fun t ht hW => ⟨⟨1, (upd Mhl (Int32.toNatClampNeg p1) 1, upd Mlg (Int32.toNatClampNeg p1) p2, upd Mlc (Int32.toNatClampNeg p1) p3, upd Mlx (Int32.toNatClampNeg p1) p4), rfl, by simp only [f_Mo_load, w1, if_neg c4, w13, if_neg c16, w25, if_neg c28, w38, if_neg c41], by rw [ht]; exact hP9, hD9⟩, hS.F ht⟩) hS.2.2 d_Mo_load_76
        · refine lv_iconst (v := 0) hx hb d_Mo_load_44 (by decide) ?_
          have hP9 := hP.sub (ws' := [(y0, .inr (7, [.ref eS, .ref eP, .int Mfe, .ref eM, .ref eK, .ref eG, .ref eR, .long Mbo, .long Mro, .int Mus, .ref eN, .ref eW, .ref eV, .int Mne, .ref eA, .long Mca, .long Mga, .long Mgl, .long Mfl, .long Mst, .ref eH, .ref eX, .ref eY, .ref eZ, .int Mhp, .int Mpl])), (eH, .inl (cZ, 4, .inl Mhl)), (eX, .inl (cI, 4, .inl Mlg)), (eY, .inl (cI, 4, .inl Mlc)), (eZ, .inl (cI, 4, .inl Mlx))]) [0, 1, 2, 3, 4] rfl
          have hD9 := hD.sub (ws' := [(y0, .inr (7, [.ref eS, .ref eP, .int Mfe, .ref eM, .ref eK, .ref eG, .ref eR, .long Mbo, .long Mro, .int Mus, .ref eN, .ref eW, .ref eV, .int Mne, .ref eA, .long Mca, .long Mga, .long Mgl, .long Mfl, .long Mst, .ref eH, .ref eX, .ref eY, .ref eZ, .int Mhp, .int Mpl])), (eH, .inl (cZ, 4, .inl Mhl)), (eX, .inl (cI, 4, .inl Mlg)), (eY, .inl (cI, 4, .inl Mlc)), (eZ, .inl (cI, 4, .inl Mlx))]) [0, 1, 2, 3, 4] (by decide) rfl
          exact W.zret (ty := .boolean) (v := 0) hx hb hr rfl (fun t ht hW => ⟨⟨0, (Mhl, Mlg, Mlc, Mlx), rfl, by simp only [f_Mo_load, w1, if_neg c4, w13, if_neg c16, w25, if_neg c28, w38, if_pos c41], by rw [ht]; exact hP9, hD9⟩, hS.F ht⟩) hS.2.2 d_Mo_load_45
def f_Mo_planned (Mhp : Int32) (Mpl : Int32) (p1 : Int32) : Int32 := if Mhp = 0 then ((-1)) else (let r8 := f_Mo_isKind p1; if r8 = 0 then ((-1)) else (let r19 := f_Mo_timesOf Mpl p1; r19))
abbrev rm_Mo_planned : Room := { frames := 1, cells := 0, slots := 0, locals := 21 }
set_option maxHeartbeats 4000000 in
set_option maxRecDepth 100000 in
theorem c_Mo_planned (l : Launch) (dC : Nat → ClassId) (dI : Nat → Nat → Nat) (cI cL cZ : ClassId) (y0 eS eP eM eK eG eR eN eW eV eA eH eX eY eZ : Nat) (sz : Nat) (Mfe : Int32) (Mbo : Int64) (Mro : Int64) (Mus : Int32) (Mne : Int32) (Mca : Int64) (Mga : Int64) (Mgl : Int64) (Mfl : Int64) (Mst : Int64) (Mhp : Int32) (Mpl : Int32) (p1 : Int32) : Met l y_Mo_planned w_Mo_planned rm_Mo_planned (va_Pc [.ref y0, .int p1] (c_pre dC dI cI cL cZ [(y0, .inr (7, [.ref eS, .ref eP, .int Mfe, .ref eM, .ref eK, .ref eG, .ref eR, .long Mbo, .long Mro, .int Mus, .ref eN, .ref eW, .ref eV, .int Mne, .ref eA, .long Mca, .long Mga, .long Mgl, .long Mfl, .long Mst, .ref eH, .ref eX, .ref eY, .ref eZ, .int Mhp, .int Mpl]))] sz)) (va_Qi (fun (r : Int32) (_ : Unit) => f_Mo_planned Mhp Mpl p1 = r) (c_post dC dI (fun (u : Unit) => [(y0, .inr (7, [.ref eS, .ref eP, .int Mfe, .ref eM, .ref eK, .ref eG, .ref eR, .long Mbo, .long Mro, .int Mus, .ref eN, .ref eW, .ref eV, .int Mne, .ref eA, .long Mca, .long Mga, .long Mgl, .long Mfl, .long Mst, .ref eH, .ref eX, .ref eY, .ref eZ, .int Mhp, .int Mpl]))]) (va_A [(y0, .inr (7, [.ref eS, .ref eP, .int Mfe, .ref eM, .ref eK, .ref eG, .ref eR, .long Mbo, .long Mro, .int Mus, .ref eN, .ref eW, .ref eV, .int Mne, .ref eA, .long Mca, .long Mga, .long Mgl, .long Mfl, .long Mst, .ref eH, .ref eX, .ref eY, .ref eZ, .int Mhp, .int Mpl]))] sz)) (va_A [(y0, .inr (7, [.ref eS, .ref eP, .int Mfe, .ref eM, .ref eK, .ref eG, .ref eR, .long Mbo, .long Mro, .int Mus, .ref eN, .ref eW, .ref eV, .int Mne, .ref eA, .long Mca, .long Mga, .long Mgl, .long Mfl, .long Mst, .ref eH, .ref eX, .ref eY, .ref eZ, .int Mhp, .int Mpl]))] sz)) 0 0 (va_A [(y0, .inr (7, [.ref eS, .ref eP, .int Mfe, .ref eM, .ref eK, .ref eG, .ref eR, .long Mbo, .long Mro, .int Mus, .ref eN, .ref eW, .ref eV, .int Mne, .ref eA, .long Mca, .long Mga, .long Mgl, .long Mfl, .long Mst, .ref eH, .ref eX, .ref eY, .ref eZ, .int Mhp, .int Mpl]))] sz) := by
  refine Met.ofW (cc := b_Mo_planned) (maxL := 2) (ret := (some .int)) (by decide) rfl ?_
  intro p e s m args below meth c s₁ B hml hv
  obtain ⟨rfl, hsz, hP, hK, hN, hD0⟩ := hv
  have hx := B.exec
  have hb := B.bytes
  have hr := B.returns
  have hts := atoms_spec (ws := w_Mo_planned) B.pre
  have hown : s.vm.findClass R_Mo = some m.cls := findClass_of_methodNamed B.named
  have hlocks := B.notSynchronized
  have hwg : ∀ w ∈ wg, w.before ([.ref y0, .int p1] : List Value).toArray s = true := fun w h => hts w (List.mem_cons_of_mem _ h)
  subst hsz
  have hD := hD0.self (sz := s.heap.size)
  generalize hAe : va_A [(y0, .inr (7, [.ref eS, .ref eP, .int Mfe, .ref eM, .ref eK, .ref eG, .ref eR, .long Mbo, .long Mro, .int Mus, .ref eN, .ref eW, .ref eV, .int Mne, .ref eA, .long Mca, .long Mga, .long Mgl, .long Mfl, .long Mst, .ref eH, .ref eX, .ref eY, .ref eZ, .int Mhp, .int Mpl]))] s.heap.size = A at hD ⊢
  have hA : ∀ q : Nat, s.heap.size ≤ q → A q := fun q h => by rw [← hAe]; exact Or.inr h
  have hS : va_S A s.heap s.heap [] := va_S.rf
  have hP : va_P (dC, dI) vwCl [(y0, .inr (7, [.ref eS, .ref eP, .int Mfe, .ref eM, .ref eK, .ref eG, .ref eR, .long Mbo, .long Mro, .int Mus, .ref eN, .ref eW, .ref eV, .int Mne, .ref eA, .long Mca, .long Mga, .long Mgl, .long Mfl, .long Mst, .ref eH, .ref eX, .ref eY, .ref eZ, .int Mhp, .int Mpl]))] s.heap := hP
  have hl := lv_entry ([.ref y0, .int p1]) (n := 2) (Nat.le_of_ble_eq_true rfl)
  rw [lg_entry_eq]
  generalize (lg_sl ([.ref y0, .int p1]) ++ List.replicate (2 - (lg_sl ([.ref y0, .int p1])).length) Slot.unset).toArray = ls at hl ⊢
  have hl : lv_has ls 2 [(0, .ref y0), (1, .int p1)] := hl
  refine lv_aload_n hx hb d_Mo_planned_0 rfl (lv_at hl 0 rfl) ?_
  refine va_get (D := (dC, dI)) (ci := 7) (v := .int Mhp) (C := R_Mo) (T := F_Mo) (N := 26) hx hb hwg iu_Mo hown hK hP 0 rfl rfl 24 (by decide) (hwg _ kw_346) (fun _ h9 => h9) rfl d_Mo_planned_1 ?_
  refine lv_if_eq (tgt := 25) hx hb d_Mo_planned_4 (by decide) (fun (c4 : Mhp = 0) => ?_) (fun (c4 : ¬ (Mhp = 0)) => ?_)
  · refine lv_iconst (v := (-1)) hx hb d_Mo_planned_25 (by decide) ?_
    have hP9 := hP.sub (ws' := [(y0, .inr (7, [.ref eS, .ref eP, .int Mfe, .ref eM, .ref eK, .ref eG, .ref eR, .long Mbo, .long Mro, .int Mus, .ref eN, .ref eW, .ref eV, .int Mne, .ref eA, .long Mca, .long Mga, .long Mgl, .long Mfl, .long Mst, .ref eH, .ref eX, .ref eY, .ref eZ, .int Mhp, .int Mpl]))]) [0] rfl
    have hD9 := hD.sub (ws' := [(y0, .inr (7, [.ref eS, .ref eP, .int Mfe, .ref eM, .ref eK, .ref eG, .ref eR, .long Mbo, .long Mro, .int Mus, .ref eN, .ref eW, .ref eV, .int Mne, .ref eA, .long Mca, .long Mga, .long Mgl, .long Mfl, .long Mst, .ref eH, .ref eX, .ref eY, .ref eZ, .int Mhp, .int Mpl]))]) [0] (by decide) rfl
    exact W.iret (v := (-1)) hx hb hr (fun t ht hW => ⟨⟨(-1), (), rfl, by simp only [f_Mo_planned, if_pos c4], by rw [ht]; exact hP9, hD9⟩, hS.F ht⟩) hS.2.2 d_Mo_planned_26
  · refine lv_iload_n hx hb d_Mo_planned_7 rfl (lv_at hl 1 rfl) ?_
    have hPc := hP.sub (ws' := []) [] rfl
    have hDc := hD.sub (ws' := []) [] (by decide) rfl
    refine k_calli hP hD hS hA [] [0] (wc := []) (wr := [(y0, .inr (7, [.ref eS, .ref eP, .int Mfe, .ref eM, .ref eK, .ref eG, .ref eR, .long Mbo, .long Mro, .int Mus, .ref eN, .ref eW, .ref eV, .int Mne, .ref eA, .long Mca, .long Mga, .long Mgl, .long Mfl, .long Mst, .ref eH, .ref eX, .ref eY, .ref eZ, .int Mhp, .int Mpl]))]) rfl rfl (by decide) (by decide) (va_runS (As := [.int p1]) (rest := []) ⟨hx, hb, hml, hown, hwg⟩ (c_Mo_isKind l dC dI cI cL cZ s.heap.size p1) (va_cwS 1 hwg (g_S kw_353 kw_354 kw_21 kw_355) rfl rfl rfl (by decide +kernel) ⟨Nat.le_of_ble_eq_true rfl, Nat.le_of_ble_eq_true rfl⟩) ⟨c_pre_call, c_pre_mk hPc hDc hK hN _⟩ rfl rfl hl.1 rfl (lv_room (Nat.le_of_ble_eq_true rfl)) d_Mo_planned_8 ⟨Nat.le_of_ble_eq_true rfl, Nat.le_of_ble_eq_true rfl⟩) (fun r8 u H8 locs w8 hz1 hP hD hS => ?_)
    have hP := hP.sub (ws' := [(y0, .inr (7, [.ref eS, .ref eP, .int Mfe, .ref eM, .ref eK, .ref eG, .ref eR, .long Mbo, .long Mro, .int Mus, .ref eN, .ref eW, .ref eV, .int Mne, .ref eA, .long Mca, .long Mga, .long Mgl, .long Mfl, .long Mst, .ref eH, .ref eX, .ref eY, .ref eZ, .int Mhp, .int Mpl]))]) [0] rfl
    have hD := hD.sub (ws' := [(y0, .inr (7, [.ref eS, .ref eP, .int Mfe, .ref eM, .ref eK, .ref eG, .ref eR, .long Mbo, .long Mro, .int Mus, .ref eN, .ref eW, .ref eV, .int Mne, .ref eA, .long Mca, .long Mga, .long Mgl, .long Mfl, .long Mst, .ref eH, .ref eX, .ref eY, .ref eZ, .int Mhp, .int Mpl]))]) [0] (by decide) rfl
    refine lv_if_eq (tgt := 25) hx hb d_Mo_planned_11 (by decide) (fun (c11 : r8 = 0) => ?_) (fun (c11 : ¬ (r8 = 0)) => ?_)
    · refine lv_iconst (v := (-1)) hx hb d_Mo_planned_25 (by decide) ?_
      have hP9 := hP.sub (ws' := [(y0, .inr (7, [.ref eS, .ref eP, .int Mfe, .ref eM, .ref eK, .ref eG, .ref eR, .long Mbo, .long Mro, .int Mus, .ref eN, .ref eW, .ref eV, .int Mne, .ref eA, .long Mca, .long Mga, .long Mgl, .long Mfl, .long Mst, .ref eH, .ref eX, .ref eY, .ref eZ, .int Mhp, .int Mpl]))]) [0] rfl
      have hD9 := hD.sub (ws' := [(y0, .inr (7, [.ref eS, .ref eP, .int Mfe, .ref eM, .ref eK, .ref eG, .ref eR, .long Mbo, .long Mro, .int Mus, .ref eN, .ref eW, .ref eV, .int Mne, .ref eA, .long Mca, .long Mga, .long Mgl, .long Mfl, .long Mst, .ref eH, .ref eX, .ref eY, .ref eZ, .int Mhp, .int Mpl]))]) [0] (by decide) rfl
      exact W.iret (v := (-1)) hx hb hr (fun t ht hW => ⟨⟨(-1), (), rfl, by simp only [f_Mo_planned, if_neg c4, w8, if_pos c11], by rw [ht]; exact hP9, hD9⟩, hS.F ht⟩) hS.2.2 d_Mo_planned_26
    · refine lv_aload_n hx hb d_Mo_planned_14 rfl (lv_at hl 0 rfl) ?_
      refine va_get (D := (dC, dI)) (ci := 7) (v := .int Mpl) (C := R_Mo) (T := F_Mo) (N := 26) hx hb hwg iu_Mo hown hK hP 0 rfl rfl 25 (by decide) (hwg _ kw_347) (fun _ h9 => h9) rfl d_Mo_planned_15 ?_
      refine lv_iload_n hx hb d_Mo_planned_18 rfl (lv_at hl 1 rfl) ?_
      have hPc := hP.sub (ws' := []) [] rfl
      have hDc := hD.sub (ws' := []) [] (by decide) rfl
      refine k_calli hP hD hS hA [] [0] (wc := []) (wr := [(y0, .inr (7, [.ref eS, .ref eP, .int Mfe, .ref eM, .ref eK, .ref eG, .ref eR, .long Mbo, .long Mro, .int Mus, .ref eN, .ref eW, .ref eV, .int Mne, .ref eA, .long Mca, .long Mga, .long Mgl, .long Mfl, .long Mst, .ref eH, .ref eX, .ref eY, .ref eZ, .int Mhp, .int Mpl]))]) rfl rfl (by decide) (by decide) (va_runS (As := [.int Mpl, .int p1]) (rest := []) ⟨hx, hb, hml, hown, hwg⟩ (c_Mo_timesOf l dC dI cI cL cZ H8.size Mpl p1) (va_cwS 2 hwg (g_S kw_436 kw_437 kw_21 kw_438) rfl rfl rfl (by decide +kernel) ⟨Nat.le_of_ble_eq_true rfl, Nat.le_of_ble_eq_true rfl⟩) ⟨c_pre_call, c_pre_mk hPc hDc hK hN _⟩ rfl rfl hl.1 rfl (lv_room (Nat.le_of_ble_eq_true rfl)) d_Mo_planned_19 ⟨Nat.le_of_ble_eq_true rfl, Nat.le_of_ble_eq_true rfl⟩) (fun r19 u H19 locs w19 hz1 hP hD hS => ?_)
      have hP := hP.sub (ws' := [(y0, .inr (7, [.ref eS, .ref eP, .int Mfe, .ref eM, .ref eK, .ref eG, .ref eR, .long Mbo, .long Mro, .int Mus, .ref eN, .ref eW, .ref eV, .int Mne, .ref eA, .long Mca, .long Mga, .long Mgl, .long Mfl, .long Mst, .ref eH, .ref eX, .ref eY, .ref eZ, .int Mhp, .int Mpl]))]) [0] rfl
      have hD := hD.sub (ws' := [(y0, .inr (7, [.ref eS, .ref eP, .int Mfe, .ref eM, .ref eK, .ref eG, .ref eR, .long Mbo, .long Mro, .int Mus, .ref eN, .ref eW, .ref eV, .int Mne, .ref eA, .long Mca, .long Mga, .long Mgl, .long Mfl, .long Mst, .ref eH, .ref eX, .ref eY, .ref eZ, .int Mhp, .int Mpl]))]) [0] (by decide) rfl
      refine lv_goto (tgt := 26) hx hb d_Mo_planned_22 (by decide) ?_
      have hP9 := hP.sub (ws' := [(y0, .inr (7, [.ref eS, .ref eP, .int Mfe, .ref eM, .ref eK, .ref eG, .ref eR, .long Mbo, .long Mro, .int Mus, .ref eN, .ref eW, .ref eV, .int Mne, .ref eA, .long Mca, .long Mga, .long Mgl, .long Mfl, .long Mst, .ref eH, .ref eX, .ref eY, .ref eZ, .int Mhp, .int Mpl]))]) [0] rfl
      have hD9 := hD.sub (ws' := [(y0, .inr (7, [.ref eS, .ref eP, .int Mfe, .ref eM, .ref eK, .ref eG, .ref eR, .long Mbo, .long Mro, .int Mus, .ref eN, .ref eW, .ref eV, .int Mne, .ref eA, .long Mca, .long Mga, .long Mgl, .long Mfl, .long Mst, .ref eH, .ref eX, .ref eY, .ref eZ, .int Mhp, .int Mpl]))]) [0] (by decide) rfl
      exact W.iret (v := r19) hx hb hr (fun t ht hW => ⟨⟨r19, (), rfl, by simp only [f_Mo_planned, if_neg c4, w8, if_neg c11, w19], by rw [ht]; exact hP9, hD9⟩, hS.F ht⟩) hS.2.2 d_Mo_planned_26
