theorem f_change_nar {th th2 : Nat → Int32} {a b c r : Int32} (w : f_Shares_change th a b c = (r, th2)) : narrow .boolean (.int r) = .int r := by
  unfold f_Shares_change at w
  simp only at w
  split at w
  · cases w; rfl
  · cases w; rfl
theorem d_Planner_setLoad_0 : decode b_Planner_setLoad 0 = .ok (.aload_n 0, 1) := by decide +kernel
theorem d_Planner_setLoad_1 : decode b_Planner_setLoad 1 = .ok (.getfield 9, 3) := by decide +kernel
theorem d_Planner_setLoad_4 : decode b_Planner_setLoad 4 = .ok (.iload_n 1, 1) := by decide +kernel
theorem d_Planner_setLoad_5 : decode b_Planner_setLoad 5 = .ok (.iload_n 2, 1) := by decide +kernel
theorem d_Planner_setLoad_6 : decode b_Planner_setLoad 6 = .ok (.iastore, 1) := by decide +kernel
theorem d_Planner_setLoad_7 : decode b_Planner_setLoad 7 = .ok (.aload_n 0, 1) := by decide +kernel
theorem d_Planner_setLoad_8 : decode b_Planner_setLoad 8 = .ok (.getfield 15, 3) := by decide +kernel
theorem d_Planner_setLoad_11 : decode b_Planner_setLoad 11 = .ok (.iload_n 1, 1) := by decide +kernel
theorem d_Planner_setLoad_12 : decode b_Planner_setLoad 12 = .ok (.iload_n 3, 1) := by decide +kernel
theorem d_Planner_setLoad_13 : decode b_Planner_setLoad 13 = .ok (.iastore, 1) := by decide +kernel
theorem d_Planner_setLoad_14 : decode b_Planner_setLoad 14 = .ok (.aload_n 0, 1) := by decide +kernel
theorem d_Planner_setLoad_15 : decode b_Planner_setLoad 15 = .ok (.getfield 18, 3) := by decide +kernel
theorem d_Planner_setLoad_18 : decode b_Planner_setLoad 18 = .ok (.iload_n 1, 1) := by decide +kernel
theorem d_Planner_setLoad_19 : decode b_Planner_setLoad 19 = .ok (.iload 4, 2) := by decide +kernel
theorem d_Planner_setLoad_21 : decode b_Planner_setLoad 21 = .ok (.iastore, 1) := by decide +kernel
theorem d_Planner_setLoad_22 : decode b_Planner_setLoad 22 = .ok (.return_, 1) := by decide +kernel
theorem d_Planner_loadsInAll_0 : decode b_Planner_loadsInAll 0 = .ok (.iconst 0, 1) := by decide +kernel
theorem d_Planner_loadsInAll_1 : decode b_Planner_loadsInAll 1 = .ok (.istore_n 1, 1) := by decide +kernel
theorem d_Planner_loadsInAll_2 : decode b_Planner_loadsInAll 2 = .ok (.iconst 0, 1) := by decide +kernel
theorem d_Planner_loadsInAll_3 : decode b_Planner_loadsInAll 3 = .ok (.istore_n 2, 1) := by decide +kernel
theorem d_Planner_loadsInAll_4 : decode b_Planner_loadsInAll 4 = .ok (.iload_n 2, 1) := by decide +kernel
theorem d_Planner_loadsInAll_5 : decode b_Planner_loadsInAll 5 = .ok (.iconst 4, 1) := by decide +kernel
theorem d_Planner_loadsInAll_6 : decode b_Planner_loadsInAll 6 = .ok (.if_icmp .ge 18, 3) := by decide +kernel
theorem d_Planner_loadsInAll_9 : decode b_Planner_loadsInAll 9 = .ok (.iload_n 1, 1) := by decide +kernel
theorem d_Planner_loadsInAll_10 : decode b_Planner_loadsInAll 10 = .ok (.aload_n 0, 1) := by decide +kernel
theorem d_Planner_loadsInAll_11 : decode b_Planner_loadsInAll 11 = .ok (.getfield 21, 3) := by decide +kernel
theorem d_Planner_loadsInAll_14 : decode b_Planner_loadsInAll 14 = .ok (.iload_n 2, 1) := by decide +kernel
theorem d_Planner_loadsInAll_15 : decode b_Planner_loadsInAll 15 = .ok (.iaload, 1) := by decide +kernel
theorem d_Planner_loadsInAll_16 : decode b_Planner_loadsInAll 16 = .ok (.iadd, 1) := by decide +kernel
theorem d_Planner_loadsInAll_17 : decode b_Planner_loadsInAll 17 = .ok (.istore_n 1, 1) := by decide +kernel
theorem d_Planner_loadsInAll_18 : decode b_Planner_loadsInAll 18 = .ok (.iinc 2 1, 3) := by decide +kernel
theorem d_Planner_loadsInAll_21 : decode b_Planner_loadsInAll 21 = .ok (.goto (-17), 3) := by decide +kernel
theorem d_Planner_loadsInAll_24 : decode b_Planner_loadsInAll 24 = .ok (.iload_n 1, 1) := by decide +kernel
theorem d_Planner_loadsInAll_25 : decode b_Planner_loadsInAll 25 = .ok (.ireturn, 1) := by decide +kernel
theorem d_Planner_mostTimes_0 : decode b_Planner_mostTimes 0 = .ok (.aload_n 0, 1) := by decide +kernel
theorem d_Planner_mostTimes_1 : decode b_Planner_mostTimes 1 = .ok (.getfield 9, 3) := by decide +kernel
theorem d_Planner_mostTimes_4 : decode b_Planner_mostTimes 4 = .ok (.iload_n 1, 1) := by decide +kernel
theorem d_Planner_mostTimes_5 : decode b_Planner_mostTimes 5 = .ok (.iaload, 1) := by decide +kernel
theorem d_Planner_mostTimes_6 : decode b_Planner_mostTimes 6 = .ok (.ifCond .le 8, 3) := by decide +kernel
theorem d_Planner_mostTimes_9 : decode b_Planner_mostTimes 9 = .ok (.bipush 9, 2) := by decide +kernel
theorem d_Planner_mostTimes_11 : decode b_Planner_mostTimes 11 = .ok (.goto 4, 3) := by decide +kernel
theorem d_Planner_mostTimes_14 : decode b_Planner_mostTimes 14 = .ok (.iconst 0, 1) := by decide +kernel
theorem d_Planner_mostTimes_15 : decode b_Planner_mostTimes 15 = .ok (.ireturn, 1) := by decide +kernel
theorem d_Planner_sum_0 : decode b_Planner_sum 0 = .ok (.iload_n 1, 1) := by decide +kernel
theorem d_Planner_sum_1 : decode b_Planner_sum 1 = .ok (.aload_n 0, 1) := by decide +kernel
theorem d_Planner_sum_2 : decode b_Planner_sum 2 = .ok (.iconst 0, 1) := by decide +kernel
theorem d_Planner_sum_3 : decode b_Planner_sum 3 = .ok (.iaload, 1) := by decide +kernel
theorem d_Planner_sum_4 : decode b_Planner_sum 4 = .ok (.imul, 1) := by decide +kernel
theorem d_Planner_sum_5 : decode b_Planner_sum 5 = .ok (.iload_n 2, 1) := by decide +kernel
theorem d_Planner_sum_6 : decode b_Planner_sum 6 = .ok (.aload_n 0, 1) := by decide +kernel
theorem d_Planner_sum_7 : decode b_Planner_sum 7 = .ok (.iconst 1, 1) := by decide +kernel
theorem d_Planner_sum_8 : decode b_Planner_sum 8 = .ok (.iaload, 1) := by decide +kernel
theorem d_Planner_sum_9 : decode b_Planner_sum 9 = .ok (.imul, 1) := by decide +kernel
theorem d_Planner_sum_10 : decode b_Planner_sum 10 = .ok (.iadd, 1) := by decide +kernel
theorem d_Planner_sum_11 : decode b_Planner_sum 11 = .ok (.iload_n 3, 1) := by decide +kernel
theorem d_Planner_sum_12 : decode b_Planner_sum 12 = .ok (.aload_n 0, 1) := by decide +kernel
theorem d_Planner_sum_13 : decode b_Planner_sum 13 = .ok (.iconst 2, 1) := by decide +kernel
theorem d_Planner_sum_14 : decode b_Planner_sum 14 = .ok (.iaload, 1) := by decide +kernel
theorem d_Planner_sum_15 : decode b_Planner_sum 15 = .ok (.imul, 1) := by decide +kernel
theorem d_Planner_sum_16 : decode b_Planner_sum 16 = .ok (.iadd, 1) := by decide +kernel
theorem d_Planner_sum_17 : decode b_Planner_sum 17 = .ok (.ireturn, 1) := by decide +kernel
theorem d_Planner_fewestOfLast_0 : decode b_Planner_fewestOfLast 0 = .ok (.iload_n 1, 1) := by decide +kernel
theorem d_Planner_fewestOfLast_1 : decode b_Planner_fewestOfLast 1 = .ok (.ifCond .gt 5, 3) := by decide +kernel
theorem d_Planner_fewestOfLast_4 : decode b_Planner_fewestOfLast 4 = .ok (.iconst 0, 1) := by decide +kernel
theorem d_Planner_fewestOfLast_5 : decode b_Planner_fewestOfLast 5 = .ok (.ireturn, 1) := by decide +kernel
theorem d_Planner_fewestOfLast_6 : decode b_Planner_fewestOfLast 6 = .ok (.aload_n 0, 1) := by decide +kernel
theorem d_Planner_fewestOfLast_7 : decode b_Planner_fewestOfLast 7 = .ok (.getfield 18, 3) := by decide +kernel
theorem d_Planner_fewestOfLast_10 : decode b_Planner_fewestOfLast 10 = .ok (.iconst 3, 1) := by decide +kernel
theorem d_Planner_fewestOfLast_11 : decode b_Planner_fewestOfLast 11 = .ok (.iaload, 1) := by decide +kernel
theorem d_Planner_fewestOfLast_12 : decode b_Planner_fewestOfLast 12 = .ok (.istore_n 2, 1) := by decide +kernel
theorem d_Planner_fewestOfLast_13 : decode b_Planner_fewestOfLast 13 = .ok (.iload_n 2, 1) := by decide +kernel
theorem d_Planner_fewestOfLast_14 : decode b_Planner_fewestOfLast 14 = .ok (.ifCond .gt 5, 3) := by decide +kernel
theorem d_Planner_fewestOfLast_17 : decode b_Planner_fewestOfLast 17 = .ok (.iconst (-1), 1) := by decide +kernel
theorem d_Planner_fewestOfLast_18 : decode b_Planner_fewestOfLast 18 = .ok (.ireturn, 1) := by decide +kernel
theorem d_Planner_fewestOfLast_19 : decode b_Planner_fewestOfLast 19 = .ok (.iload_n 1, 1) := by decide +kernel
theorem d_Planner_fewestOfLast_20 : decode b_Planner_fewestOfLast 20 = .ok (.iload_n 2, 1) := by decide +kernel
theorem d_Planner_fewestOfLast_21 : decode b_Planner_fewestOfLast 21 = .ok (.iadd, 1) := by decide +kernel
theorem d_Planner_fewestOfLast_22 : decode b_Planner_fewestOfLast 22 = .ok (.iconst 1, 1) := by decide +kernel
theorem d_Planner_fewestOfLast_23 : decode b_Planner_fewestOfLast 23 = .ok (.isub, 1) := by decide +kernel
theorem d_Planner_fewestOfLast_24 : decode b_Planner_fewestOfLast 24 = .ok (.iload_n 2, 1) := by decide +kernel
theorem d_Planner_fewestOfLast_25 : decode b_Planner_fewestOfLast 25 = .ok (.idiv, 1) := by decide +kernel
theorem d_Planner_fewestOfLast_26 : decode b_Planner_fewestOfLast 26 = .ok (.istore_n 3, 1) := by decide +kernel
theorem d_Planner_fewestOfLast_27 : decode b_Planner_fewestOfLast 27 = .ok (.iload_n 3, 1) := by decide +kernel
theorem d_Planner_fewestOfLast_28 : decode b_Planner_fewestOfLast 28 = .ok (.bipush 9, 2) := by decide +kernel
theorem d_Planner_fewestOfLast_30 : decode b_Planner_fewestOfLast 30 = .ok (.if_icmp .gt 7, 3) := by decide +kernel
theorem d_Planner_fewestOfLast_33 : decode b_Planner_fewestOfLast 33 = .ok (.iload_n 3, 1) := by decide +kernel
theorem d_Planner_fewestOfLast_34 : decode b_Planner_fewestOfLast 34 = .ok (.goto 4, 3) := by decide +kernel
theorem d_Planner_fewestOfLast_37 : decode b_Planner_fewestOfLast 37 = .ok (.iconst (-1), 1) := by decide +kernel
theorem d_Planner_fewestOfLast_38 : decode b_Planner_fewestOfLast 38 = .ok (.ireturn, 1) := by decide +kernel
theorem d_Planner_keep_0 : decode b_Planner_keep 0 = .ok (.aload_n 0, 1) := by decide +kernel
theorem d_Planner_keep_1 : decode b_Planner_keep 1 = .ok (.getfield 21, 3) := by decide +kernel
theorem d_Planner_keep_4 : decode b_Planner_keep 4 = .ok (.iconst 0, 1) := by decide +kernel
theorem d_Planner_keep_5 : decode b_Planner_keep 5 = .ok (.iload_n 1, 1) := by decide +kernel
theorem d_Planner_keep_6 : decode b_Planner_keep 6 = .ok (.iastore, 1) := by decide +kernel
theorem d_Planner_keep_7 : decode b_Planner_keep 7 = .ok (.aload_n 0, 1) := by decide +kernel
theorem d_Planner_keep_8 : decode b_Planner_keep 8 = .ok (.getfield 21, 3) := by decide +kernel
theorem d_Planner_keep_11 : decode b_Planner_keep 11 = .ok (.iconst 1, 1) := by decide +kernel
theorem d_Planner_keep_12 : decode b_Planner_keep 12 = .ok (.iload_n 2, 1) := by decide +kernel
theorem d_Planner_keep_13 : decode b_Planner_keep 13 = .ok (.iastore, 1) := by decide +kernel
theorem d_Planner_keep_14 : decode b_Planner_keep 14 = .ok (.aload_n 0, 1) := by decide +kernel
theorem d_Planner_keep_15 : decode b_Planner_keep 15 = .ok (.getfield 21, 3) := by decide +kernel
theorem d_Planner_keep_18 : decode b_Planner_keep 18 = .ok (.iconst 2, 1) := by decide +kernel
theorem d_Planner_keep_19 : decode b_Planner_keep 19 = .ok (.iload_n 3, 1) := by decide +kernel
theorem d_Planner_keep_20 : decode b_Planner_keep 20 = .ok (.iastore, 1) := by decide +kernel
theorem d_Planner_keep_21 : decode b_Planner_keep 21 = .ok (.aload_n 0, 1) := by decide +kernel
theorem d_Planner_keep_22 : decode b_Planner_keep 22 = .ok (.getfield 21, 3) := by decide +kernel
theorem d_Planner_keep_25 : decode b_Planner_keep 25 = .ok (.iconst 3, 1) := by decide +kernel
theorem d_Planner_keep_26 : decode b_Planner_keep 26 = .ok (.iload 4, 2) := by decide +kernel
theorem d_Planner_keep_28 : decode b_Planner_keep 28 = .ok (.iastore, 1) := by decide +kernel
theorem d_Planner_keep_29 : decode b_Planner_keep 29 = .ok (.aload_n 0, 1) := by decide +kernel
theorem d_Planner_keep_30 : decode b_Planner_keep 30 = .ok (.iconst 1, 1) := by decide +kernel
theorem d_Planner_keep_31 : decode b_Planner_keep 31 = .ok (.putfield 39, 3) := by decide +kernel
theorem d_Planner_keep_34 : decode b_Planner_keep 34 = .ok (.return_, 1) := by decide +kernel
theorem d_Planner_find_0 : decode b_Planner_find 0 = .ok (.iconst (-1), 1) := by decide +kernel
theorem d_Planner_find_1 : decode b_Planner_find 1 = .ok (.istore_n 2, 1) := by decide +kernel
theorem d_Planner_find_2 : decode b_Planner_find 2 = .ok (.iconst 0, 1) := by decide +kernel
theorem d_Planner_find_3 : decode b_Planner_find 3 = .ok (.istore_n 3, 1) := by decide +kernel
theorem d_Planner_find_4 : decode b_Planner_find 4 = .ok (.iload_n 3, 1) := by decide +kernel
theorem d_Planner_find_5 : decode b_Planner_find 5 = .ok (.aload_n 0, 1) := by decide +kernel
theorem d_Planner_find_6 : decode b_Planner_find 6 = .ok (.iconst 0, 1) := by decide +kernel
theorem d_Planner_find_7 : decode b_Planner_find 7 = .ok (.invokevirtual 24, 3) := by decide +kernel
theorem d_Planner_find_10 : decode b_Planner_find 10 = .ok (.if_icmp .gt 132, 3) := by decide +kernel
theorem d_Planner_find_13 : decode b_Planner_find 13 = .ok (.iconst 0, 1) := by decide +kernel
theorem d_Planner_find_14 : decode b_Planner_find 14 = .ok (.istore 4, 2) := by decide +kernel
theorem d_Planner_find_16 : decode b_Planner_find 16 = .ok (.iload 4, 2) := by decide +kernel
theorem d_Planner_find_18 : decode b_Planner_find 18 = .ok (.aload_n 0, 1) := by decide +kernel
theorem d_Planner_find_19 : decode b_Planner_find 19 = .ok (.iconst 1, 1) := by decide +kernel
theorem d_Planner_find_20 : decode b_Planner_find 20 = .ok (.invokevirtual 24, 3) := by decide +kernel
theorem d_Planner_find_23 : decode b_Planner_find 23 = .ok (.if_icmp .gt 113, 3) := by decide +kernel
theorem d_Planner_find_26 : decode b_Planner_find 26 = .ok (.iconst 0, 1) := by decide +kernel
theorem d_Planner_find_27 : decode b_Planner_find 27 = .ok (.istore 5, 2) := by decide +kernel
theorem d_Planner_find_29 : decode b_Planner_find 29 = .ok (.iload 5, 2) := by decide +kernel
theorem d_Planner_find_31 : decode b_Planner_find 31 = .ok (.aload_n 0, 1) := by decide +kernel
theorem d_Planner_find_32 : decode b_Planner_find 32 = .ok (.iconst 2, 1) := by decide +kernel
theorem d_Planner_find_33 : decode b_Planner_find 33 = .ok (.invokevirtual 24, 3) := by decide +kernel
theorem d_Planner_find_36 : decode b_Planner_find 36 = .ok (.if_icmp .gt 94, 3) := by decide +kernel
theorem d_Planner_find_39 : decode b_Planner_find 39 = .ok (.aload_n 0, 1) := by decide +kernel
theorem d_Planner_find_40 : decode b_Planner_find 40 = .ok (.iload_n 1, 1) := by decide +kernel
theorem d_Planner_find_41 : decode b_Planner_find 41 = .ok (.aload_n 0, 1) := by decide +kernel
theorem d_Planner_find_42 : decode b_Planner_find 42 = .ok (.getfield 18, 3) := by decide +kernel
theorem d_Planner_find_45 : decode b_Planner_find 45 = .ok (.iload_n 3, 1) := by decide +kernel
theorem d_Planner_find_46 : decode b_Planner_find 46 = .ok (.iload 4, 2) := by decide +kernel
theorem d_Planner_find_48 : decode b_Planner_find 48 = .ok (.iload 5, 2) := by decide +kernel
theorem d_Planner_find_50 : decode b_Planner_find 50 = .ok (.invokestatic 28, 3) := by decide +kernel
theorem d_Planner_find_53 : decode b_Planner_find 53 = .ok (.isub, 1) := by decide +kernel
theorem d_Planner_find_54 : decode b_Planner_find 54 = .ok (.invokevirtual 32, 3) := by decide +kernel
theorem d_Planner_find_57 : decode b_Planner_find 57 = .ok (.istore 6, 2) := by decide +kernel
theorem d_Planner_find_59 : decode b_Planner_find 59 = .ok (.iload 6, 2) := by decide +kernel
theorem d_Planner_find_61 : decode b_Planner_find 61 = .ok (.iconst (-1), 1) := by decide +kernel
theorem d_Planner_find_62 : decode b_Planner_find 62 = .ok (.if_icmp .ne 7, 3) := by decide +kernel
theorem d_Planner_find_65 : decode b_Planner_find 65 = .ok (.iconst (-1), 1) := by decide +kernel
theorem d_Planner_find_66 : decode b_Planner_find 66 = .ok (.goto 25, 3) := by decide +kernel
theorem d_Planner_find_69 : decode b_Planner_find 69 = .ok (.aload_n 0, 1) := by decide +kernel
theorem d_Planner_find_70 : decode b_Planner_find 70 = .ok (.getfield 15, 3) := by decide +kernel
theorem d_Planner_find_73 : decode b_Planner_find 73 = .ok (.iload_n 3, 1) := by decide +kernel
theorem d_Planner_find_74 : decode b_Planner_find 74 = .ok (.iload 4, 2) := by decide +kernel
theorem d_Planner_find_76 : decode b_Planner_find 76 = .ok (.iload 5, 2) := by decide +kernel
theorem d_Planner_find_78 : decode b_Planner_find 78 = .ok (.invokestatic 28, 3) := by decide +kernel
theorem d_Planner_find_81 : decode b_Planner_find 81 = .ok (.iload 6, 2) := by decide +kernel
theorem d_Planner_find_83 : decode b_Planner_find 83 = .ok (.aload_n 0, 1) := by decide +kernel
theorem d_Planner_find_84 : decode b_Planner_find 84 = .ok (.getfield 15, 3) := by decide +kernel
theorem d_Planner_find_87 : decode b_Planner_find 87 = .ok (.iconst 3, 1) := by decide +kernel
theorem d_Planner_find_88 : decode b_Planner_find 88 = .ok (.iaload, 1) := by decide +kernel
theorem d_Planner_find_89 : decode b_Planner_find 89 = .ok (.imul, 1) := by decide +kernel
theorem d_Planner_find_90 : decode b_Planner_find 90 = .ok (.iadd, 1) := by decide +kernel
theorem d_Planner_find_91 : decode b_Planner_find 91 = .ok (.istore 7, 2) := by decide +kernel
theorem d_Planner_find_93 : decode b_Planner_find 93 = .ok (.iload 7, 2) := by decide +kernel
theorem d_Planner_find_95 : decode b_Planner_find 95 = .ok (.iconst (-1), 1) := by decide +kernel
theorem d_Planner_find_96 : decode b_Planner_find 96 = .ok (.if_icmp .eq 28, 3) := by decide +kernel
theorem d_Planner_find_99 : decode b_Planner_find 99 = .ok (.iload_n 2, 1) := by decide +kernel
theorem d_Planner_find_100 : decode b_Planner_find 100 = .ok (.iconst (-1), 1) := by decide +kernel
theorem d_Planner_find_101 : decode b_Planner_find 101 = .ok (.if_icmp .eq 9, 3) := by decide +kernel
theorem d_Planner_find_104 : decode b_Planner_find 104 = .ok (.iload 7, 2) := by decide +kernel
theorem d_Planner_find_106 : decode b_Planner_find 106 = .ok (.iload_n 2, 1) := by decide +kernel
theorem d_Planner_find_107 : decode b_Planner_find 107 = .ok (.if_icmp .ge 17, 3) := by decide +kernel
theorem d_Planner_find_110 : decode b_Planner_find 110 = .ok (.iload 7, 2) := by decide +kernel
theorem d_Planner_find_112 : decode b_Planner_find 112 = .ok (.istore_n 2, 1) := by decide +kernel
theorem d_Planner_find_113 : decode b_Planner_find 113 = .ok (.aload_n 0, 1) := by decide +kernel
theorem d_Planner_find_114 : decode b_Planner_find 114 = .ok (.iload_n 3, 1) := by decide +kernel
theorem d_Planner_find_115 : decode b_Planner_find 115 = .ok (.iload 4, 2) := by decide +kernel
theorem d_Planner_find_117 : decode b_Planner_find 117 = .ok (.iload 5, 2) := by decide +kernel
theorem d_Planner_find_119 : decode b_Planner_find 119 = .ok (.iload 6, 2) := by decide +kernel
theorem d_Planner_find_121 : decode b_Planner_find 121 = .ok (.invokevirtual 35, 3) := by decide +kernel
theorem d_Planner_find_124 : decode b_Planner_find 124 = .ok (.iinc 5 1, 3) := by decide +kernel
theorem d_Planner_find_127 : decode b_Planner_find 127 = .ok (.goto (-98), 3) := by decide +kernel
theorem d_Planner_find_130 : decode b_Planner_find 130 = .ok (.iinc 4 1, 3) := by decide +kernel
theorem d_Planner_find_133 : decode b_Planner_find 133 = .ok (.goto (-117), 3) := by decide +kernel
theorem d_Planner_find_136 : decode b_Planner_find 136 = .ok (.iinc 3 1, 3) := by decide +kernel
theorem d_Planner_find_139 : decode b_Planner_find 139 = .ok (.goto (-135), 3) := by decide +kernel
theorem d_Planner_find_142 : decode b_Planner_find 142 = .ok (.iload_n 2, 1) := by decide +kernel
theorem d_Planner_find_143 : decode b_Planner_find 143 = .ok (.ireturn, 1) := by decide +kernel
def f_Planner_setLoad (lg : Nat → Int32) (lc : Nat → Int32) (lx : Nat → Int32) (p1 : Int32) (p2 : Int32) (p3 : Int32) (p4 : Int32) : (Nat → Int32) × (Nat → Int32) × (Nat → Int32) := (upd lg (Int32.toNatClampNeg p1) p2, upd lc (Int32.toNatClampNeg p1) p3, upd lx (Int32.toNatClampNeg p1) p4)
abbrev rm_Planner_setLoad : Room := { frames := 0, cells := 0, slots := 0, locals := 0 }
set_option maxHeartbeats 4000000 in
set_option maxRecDepth 100000 in
theorem c_Planner_setLoad (l : Launch) (dC : Nat → ClassId) (dI : Nat → Nat → Nat) (cI cL cZ : ClassId) (aL bL1 bL2 bL3 bL4 : Nat) (sz : Nat) (fo : Int32) (lg : Nat → Int32) (lc : Nat → Int32) (lx : Nat → Int32) (p1 : Int32) (p2 : Int32) (p3 : Int32) (p4 : Int32) (hp : vp_in p1 4) : Met l y_Planner_setLoad w_Planner_setLoad rm_Planner_setLoad (va_Pc [.ref aL, .int p1, .int p2, .int p3, .int p4] (c_pre dC dI cI cL cZ [(aL, .inr (6, [.ref bL1, .ref bL2, .ref bL3, .ref bL4, .int fo])), (bL1, .inl (cI, 4, .inl lg)), (bL2, .inl (cI, 4, .inl lc)), (bL3, .inl (cI, 4, .inl lx))] sz)) (va_Qv (fun (u : (Nat → Int32) × (Nat → Int32) × (Nat → Int32)) => f_Planner_setLoad lg lc lx p1 p2 p3 p4 = u) (c_post dC dI (fun (u : (Nat → Int32) × (Nat → Int32) × (Nat → Int32)) => [(aL, .inr (6, [.ref bL1, .ref bL2, .ref bL3, .ref bL4, .int fo])), (bL1, .inl (cI, 4, .inl u.1)), (bL2, .inl (cI, 4, .inl u.2.1)), (bL3, .inl (cI, 4, .inl u.2.2))]) (va_A [(aL, .inr (6, [.ref bL1, .ref bL2, .ref bL3, .ref bL4, .int fo])), (bL1, .inl (cI, 4, .inl lg)), (bL2, .inl (cI, 4, .inl lc)), (bL3, .inl (cI, 4, .inl lx))] sz)) (va_A [(aL, .inr (6, [.ref bL1, .ref bL2, .ref bL3, .ref bL4, .int fo])), (bL1, .inl (cI, 4, .inl lg)), (bL2, .inl (cI, 4, .inl lc)), (bL3, .inl (cI, 4, .inl lx))] sz)) 0 0 (va_A [(aL, .inr (6, [.ref bL1, .ref bL2, .ref bL3, .ref bL4, .int fo])), (bL1, .inl (cI, 4, .inl lg)), (bL2, .inl (cI, 4, .inl lc)), (bL3, .inl (cI, 4, .inl lx))] sz) := by
  refine Met.ofW (cc := b_Planner_setLoad) (maxL := 5) (ret := none) (by decide) rfl ?_
  intro p e s m args below meth c s₁ B hml hv
  obtain ⟨rfl, hsz, hP, hK, hN, hD0⟩ := hv
  have hx := B.exec
  have hb := B.bytes
  have hr := B.returns
  have hts := atoms_spec (ws := w_Planner_setLoad) B.pre
  have hown : s.vm.findClass R_Planner = some m.cls := findClass_of_methodNamed B.named
  have hlocks := B.notSynchronized
  have hwg : ∀ w ∈ wg, w.before ([.ref aL, .int p1, .int p2, .int p3, .int p4] : List Value).toArray s = true := fun w h => hts w (List.mem_cons_of_mem _ h)
  subst hsz
  have hD := hD0.self (sz := s.heap.size)
  generalize hAe : va_A [(aL, .inr (6, [.ref bL1, .ref bL2, .ref bL3, .ref bL4, .int fo])), (bL1, .inl (cI, 4, .inl lg)), (bL2, .inl (cI, 4, .inl lc)), (bL3, .inl (cI, 4, .inl lx))] s.heap.size = A at hD ⊢
  have hA : ∀ q : Nat, s.heap.size ≤ q → A q := fun q h => by rw [← hAe]; exact Or.inr h
  have hS : va_S A s.heap s.heap [] := va_S.rf
  have hP : va_P (dC, dI) vwCl [(aL, .inr (6, [.ref bL1, .ref bL2, .ref bL3, .ref bL4, .int fo])), (bL1, .inl (cI, 4, .inl lg)), (bL2, .inl (cI, 4, .inl lc)), (bL3, .inl (cI, 4, .inl lx))] s.heap := hP
  have hl := lv_entry ([.ref aL, .int p1, .int p2, .int p3, .int p4]) (n := 5) (Nat.le_of_ble_eq_true rfl)
  rw [lg_entry_eq]
  generalize (lg_sl ([.ref aL, .int p1, .int p2, .int p3, .int p4]) ++ List.replicate (5 - (lg_sl ([.ref aL, .int p1, .int p2, .int p3, .int p4])).length) Slot.unset).toArray = ls at hl ⊢
  have hl : lv_has ls 5 [(0, .ref aL), (1, .int p1), (2, .int p2), (3, .int p3), (4, .int p4)] := hl
  refine lv_aload_n hx hb d_Planner_setLoad_0 rfl (lv_at hl 0 rfl) ?_
  refine va_get (D := (dC, dI)) (ci := 6) (v := .ref bL1) (C := R_Planner) (T := F_Planner) (N := 5) hx hb hwg iu_Planner hown hK hP 0 rfl rfl 0 (by decide) (hwg _ kw_87) (fun _ h9 => h9) rfl d_Planner_setLoad_1 ?_
  refine lv_iload_n hx hb d_Planner_setLoad_4 rfl (lv_at hl 1 rfl) ?_
  refine lv_iload_n hx hb d_Planner_setLoad_5 rfl (lv_at hl 2 rfl) ?_
  refine va_iast hx hb hK hP hD hS 1 0 rfl rfl hp d_Planner_setLoad_6 (fun H6 locs hP hD hS => ?_)
  have hP : va_P (dC, dI) vwCl [(aL, .inr (6, [.ref bL1, .ref bL2, .ref bL3, .ref bL4, .int fo])), (bL1, .inl (cI, 4, .inl (upd lg (Int32.toNatClampNeg p1) p2))), (bL2, .inl (cI, 4, .inl lc)), (bL3, .inl (cI, 4, .inl lx))] H6 := hP
  have hD : va_D A [(aL, .inr (6, [.ref bL1, .ref bL2, .ref bL3, .ref bL4, .int fo])), (bL1, .inl (cI, 4, .inl (upd lg (Int32.toNatClampNeg p1) p2))), (bL2, .inl (cI, 4, .inl lc)), (bL3, .inl (cI, 4, .inl lx))] := hD
  refine lv_aload_n hx hb d_Planner_setLoad_7 rfl (lv_at hl 0 rfl) ?_
  refine va_get (D := (dC, dI)) (ci := 6) (v := .ref bL2) (C := R_Planner) (T := F_Planner) (N := 5) hx hb hwg iu_Planner hown hK hP 0 rfl rfl 1 (by decide) (hwg _ kw_88) (fun _ h9 => h9) rfl d_Planner_setLoad_8 ?_
  refine lv_iload_n hx hb d_Planner_setLoad_11 rfl (lv_at hl 1 rfl) ?_
  refine lv_iload_n hx hb d_Planner_setLoad_12 rfl (lv_at hl 3 rfl) ?_
  refine va_iast hx hb hK hP hD hS 2 0 rfl rfl hp d_Planner_setLoad_13 (fun H13 locs hP hD hS => ?_)
  have hP : va_P (dC, dI) vwCl [(aL, .inr (6, [.ref bL1, .ref bL2, .ref bL3, .ref bL4, .int fo])), (bL1, .inl (cI, 4, .inl (upd lg (Int32.toNatClampNeg p1) p2))), (bL2, .inl (cI, 4, .inl (upd lc (Int32.toNatClampNeg p1) p3))), (bL3, .inl (cI, 4, .inl lx))] H13 := hP
  have hD : va_D A [(aL, .inr (6, [.ref bL1, .ref bL2, .ref bL3, .ref bL4, .int fo])), (bL1, .inl (cI, 4, .inl (upd lg (Int32.toNatClampNeg p1) p2))), (bL2, .inl (cI, 4, .inl (upd lc (Int32.toNatClampNeg p1) p3))), (bL3, .inl (cI, 4, .inl lx))] := hD
  refine lv_aload_n hx hb d_Planner_setLoad_14 rfl (lv_at hl 0 rfl) ?_
  refine va_get (D := (dC, dI)) (ci := 6) (v := .ref bL3) (C := R_Planner) (T := F_Planner) (N := 5) hx hb hwg iu_Planner hown hK hP 0 rfl rfl 2 (by decide) (hwg _ kw_89) (fun _ h9 => h9) rfl d_Planner_setLoad_15 ?_
  refine lv_iload_n hx hb d_Planner_setLoad_18 rfl (lv_at hl 1 rfl) ?_
  refine lv_iload hx hb d_Planner_setLoad_19 (lv_at hl 4 rfl) ?_
  refine va_iast hx hb hK hP hD hS 3 0 rfl rfl hp d_Planner_setLoad_21 (fun H21 locs hP hD hS => ?_)
  have hP : va_P (dC, dI) vwCl [(aL, .inr (6, [.ref bL1, .ref bL2, .ref bL3, .ref bL4, .int fo])), (bL1, .inl (cI, 4, .inl (upd lg (Int32.toNatClampNeg p1) p2))), (bL2, .inl (cI, 4, .inl (upd lc (Int32.toNatClampNeg p1) p3))), (bL3, .inl (cI, 4, .inl (upd lx (Int32.toNatClampNeg p1) p4)))] H21 := hP
  have hD : va_D A [(aL, .inr (6, [.ref bL1, .ref bL2, .ref bL3, .ref bL4, .int fo])), (bL1, .inl (cI, 4, .inl (upd lg (Int32.toNatClampNeg p1) p2))), (bL2, .inl (cI, 4, .inl (upd lc (Int32.toNatClampNeg p1) p3))), (bL3, .inl (cI, 4, .inl (upd lx (Int32.toNatClampNeg p1) p4)))] := hD
  have hP9 := hP.sub (ws' := [(aL, .inr (6, [.ref bL1, .ref bL2, .ref bL3, .ref bL4, .int fo])), (bL1, .inl (cI, 4, .inl (upd lg (Int32.toNatClampNeg p1) p2))), (bL2, .inl (cI, 4, .inl (upd lc (Int32.toNatClampNeg p1) p3))), (bL3, .inl (cI, 4, .inl (upd lx (Int32.toNatClampNeg p1) p4)))]) [0, 1, 2, 3] rfl
  have hD9 := hD.sub (ws' := [(aL, .inr (6, [.ref bL1, .ref bL2, .ref bL3, .ref bL4, .int fo])), (bL1, .inl (cI, 4, .inl (upd lg (Int32.toNatClampNeg p1) p2))), (bL2, .inl (cI, 4, .inl (upd lc (Int32.toNatClampNeg p1) p3))), (bL3, .inl (cI, 4, .inl (upd lx (Int32.toNatClampNeg p1) p4)))]) [0, 1, 2, 3] (by decide) rfl
  exact W.vret hx hb hr (fun t ht hW => ⟨⟨(upd lg (Int32.toNatClampNeg p1) p2, upd lc (Int32.toNatClampNeg p1) p3, upd lx (Int32.toNatClampNeg p1) p4), rfl, by simp only [f_Planner_setLoad], by rw [ht]; exact hP9, hD9⟩, hS.F ht⟩) hS.2.2 d_Planner_setLoad_22
def f_Planner_loadsInAll (lt : Nat → Int32) : Int32 := (((0 + (lt 0)) + (lt 1)) + (lt 2)) + (lt 3)
abbrev rm_Planner_loadsInAll : Room := { frames := 0, cells := 0, slots := 0, locals := 0 }
set_option maxHeartbeats 4000000 in
set_option maxRecDepth 100000 in
theorem c_Planner_loadsInAll (l : Launch) (dC : Nat → ClassId) (dI : Nat → Nat → Nat) (cI cL cZ : ClassId) (aL bL1 bL2 bL3 bL4 : Nat) (sz : Nat) (fo : Int32) (lt : Nat → Int32) : Met l y_Planner_loadsInAll w_Planner_loadsInAll rm_Planner_loadsInAll (va_Pc [.ref aL] (c_pre dC dI cI cL cZ [(aL, .inr (6, [.ref bL1, .ref bL2, .ref bL3, .ref bL4, .int fo])), (bL4, .inl (cI, 4, .inl lt))] sz)) (va_Qi (fun (r : Int32) (_ : Unit) => f_Planner_loadsInAll lt = r) (c_post dC dI (fun (u : Unit) => [(aL, .inr (6, [.ref bL1, .ref bL2, .ref bL3, .ref bL4, .int fo])), (bL4, .inl (cI, 4, .inl lt))]) (va_A [(aL, .inr (6, [.ref bL1, .ref bL2, .ref bL3, .ref bL4, .int fo])), (bL4, .inl (cI, 4, .inl lt))] sz)) (va_A [(aL, .inr (6, [.ref bL1, .ref bL2, .ref bL3, .ref bL4, .int fo])), (bL4, .inl (cI, 4, .inl lt))] sz)) 0 0 (va_A [(aL, .inr (6, [.ref bL1, .ref bL2, .ref bL3, .ref bL4, .int fo])), (bL4, .inl (cI, 4, .inl lt))] sz) := by
  refine Met.ofW (cc := b_Planner_loadsInAll) (maxL := 3) (ret := (some .int)) (by decide) rfl ?_
  intro p e s m args below meth c s₁ B hml hv
  obtain ⟨rfl, hsz, hP, hK, hN, hD0⟩ := hv
  have hx := B.exec
  have hb := B.bytes
  have hr := B.returns
  have hts := atoms_spec (ws := w_Planner_loadsInAll) B.pre
  have hown : s.vm.findClass R_Planner = some m.cls := findClass_of_methodNamed B.named
  have hlocks := B.notSynchronized
  have hwg : ∀ w ∈ wg, w.before ([.ref aL] : List Value).toArray s = true := fun w h => hts w (List.mem_cons_of_mem _ h)
  subst hsz
  have hD := hD0.self (sz := s.heap.size)
  generalize hAe : va_A [(aL, .inr (6, [.ref bL1, .ref bL2, .ref bL3, .ref bL4, .int fo])), (bL4, .inl (cI, 4, .inl lt))] s.heap.size = A at hD ⊢
  have hA : ∀ q : Nat, s.heap.size ≤ q → A q := fun q h => by rw [← hAe]; exact Or.inr h
  have hS : va_S A s.heap s.heap [] := va_S.rf
  have hP : va_P (dC, dI) vwCl [(aL, .inr (6, [.ref bL1, .ref bL2, .ref bL3, .ref bL4, .int fo])), (bL4, .inl (cI, 4, .inl lt))] s.heap := hP
  have hl := lv_entry ([.ref aL]) (n := 3) (Nat.le_of_ble_eq_true rfl)
  rw [lg_entry_eq]
  generalize (lg_sl ([.ref aL]) ++ List.replicate (3 - (lg_sl ([.ref aL])).length) Slot.unset).toArray = ls at hl ⊢
  have hl : lv_has ls 3 [(0, .ref aL)] := hl
  refine lv_iconst (v := 0) hx hb d_Planner_loadsInAll_0 (by decide) ?_
  refine lv_istore_n (lv' := [(1, .int 0), (0, .ref aL)]) hx hb d_Planner_loadsInAll_1 rfl hl (by decide) rfl (fun ls hl => ?_)
  refine lv_iconst (v := 0) hx hb d_Planner_loadsInAll_2 (by decide) ?_
  refine lv_istore_n (lv' := [(2, .int 0), (1, .int 0), (0, .ref aL)]) hx hb d_Planner_loadsInAll_3 rfl hl (by decide) rfl (fun ls hl => ?_)
  refine lv_iload_n hx hb d_Planner_loadsInAll_4 rfl (lv_at hl 0 rfl) ?_
  refine lv_iconst (v := 4) hx hb d_Planner_loadsInAll_5 (by decide) ?_
  refine lv_icmp_ge (tgt := 24) hx hb d_Planner_loadsInAll_6 (by decide) (fun c6 => ?_) (fun c6 => ?_)
  · exact absurd c6 (by decide)
  refine lv_iload_n hx hb d_Planner_loadsInAll_9 rfl (lv_at hl 1 rfl) ?_
  refine lv_aload_n hx hb d_Planner_loadsInAll_10 rfl (lv_at hl 2 rfl) ?_
  refine va_get (D := (dC, dI)) (ci := 6) (v := .ref bL4) (C := R_Planner) (T := F_Planner) (N := 5) hx hb hwg iu_Planner hown hK hP 0 rfl rfl 3 (by decide) (hwg _ kw_90) (fun _ h9 => h9) rfl d_Planner_loadsInAll_11 ?_
  refine lv_iload_n hx hb d_Planner_loadsInAll_14 rfl (lv_at hl 0 rfl) ?_
  refine va_iald hx hb hK hP 1 0 rfl rfl (by unfold vp_in; decide) d_Planner_loadsInAll_15 ?_
  refine lv_iadd hx hb d_Planner_loadsInAll_16 ?_
  refine lv_istore_n (lv' := [(1, .int (0 + (lt 0))), (2, .int 0), (0, .ref aL)]) hx hb d_Planner_loadsInAll_17 rfl hl (by decide) rfl (fun ls hl => ?_)
  refine lv_iinc (v := 1) (lv' := [(2, .int 1), (1, .int (0 + (lt 0))), (0, .ref aL)]) hx hb d_Planner_loadsInAll_18 hl (k := 1) rfl (by decide) (by decide) rfl (fun ls hl => ?_)
  refine lv_goto (tgt := 4) hx hb d_Planner_loadsInAll_21 (by decide) ?_
  refine lv_iload_n hx hb d_Planner_loadsInAll_4 rfl (lv_at hl 0 rfl) ?_
  refine lv_iconst (v := 4) hx hb d_Planner_loadsInAll_5 (by decide) ?_
  refine lv_icmp_ge (tgt := 24) hx hb d_Planner_loadsInAll_6 (by decide) (fun c6_2 => ?_) (fun c6_2 => ?_)
  · exact absurd c6_2 (by decide)
  refine lv_iload_n hx hb d_Planner_loadsInAll_9 rfl (lv_at hl 1 rfl) ?_
  refine lv_aload_n hx hb d_Planner_loadsInAll_10 rfl (lv_at hl 2 rfl) ?_
  refine va_get (D := (dC, dI)) (ci := 6) (v := .ref bL4) (C := R_Planner) (T := F_Planner) (N := 5) hx hb hwg iu_Planner hown hK hP 0 rfl rfl 3 (by decide) (hwg _ kw_90) (fun _ h9 => h9) rfl d_Planner_loadsInAll_11 ?_
  refine lv_iload_n hx hb d_Planner_loadsInAll_14 rfl (lv_at hl 0 rfl) ?_
  refine va_iald hx hb hK hP 1 0 rfl rfl (by unfold vp_in; decide) d_Planner_loadsInAll_15 ?_
  refine lv_iadd hx hb d_Planner_loadsInAll_16 ?_
  refine lv_istore_n (lv' := [(1, .int ((0 + (lt 0)) + (lt 1))), (2, .int 1), (0, .ref aL)]) hx hb d_Planner_loadsInAll_17 rfl hl (by decide) rfl (fun ls hl => ?_)
  refine lv_iinc (v := 2) (lv' := [(2, .int 2), (1, .int ((0 + (lt 0)) + (lt 1))), (0, .ref aL)]) hx hb d_Planner_loadsInAll_18 hl (k := 1) rfl (by decide) (by decide) rfl (fun ls hl => ?_)
  refine lv_goto (tgt := 4) hx hb d_Planner_loadsInAll_21 (by decide) ?_
  refine lv_iload_n hx hb d_Planner_loadsInAll_4 rfl (lv_at hl 0 rfl) ?_
  refine lv_iconst (v := 4) hx hb d_Planner_loadsInAll_5 (by decide) ?_
  refine lv_icmp_ge (tgt := 24) hx hb d_Planner_loadsInAll_6 (by decide) (fun c6_3 => ?_) (fun c6_3 => ?_)
  · exact absurd c6_3 (by decide)
  refine lv_iload_n hx hb d_Planner_loadsInAll_9 rfl (lv_at hl 1 rfl) ?_
  refine lv_aload_n hx hb d_Planner_loadsInAll_10 rfl (lv_at hl 2 rfl) ?_
  refine va_get (D := (dC, dI)) (ci := 6) (v := .ref bL4) (C := R_Planner) (T := F_Planner) (N := 5) hx hb hwg iu_Planner hown hK hP 0 rfl rfl 3 (by decide) (hwg _ kw_90) (fun _ h9 => h9) rfl d_Planner_loadsInAll_11 ?_
  refine lv_iload_n hx hb d_Planner_loadsInAll_14 rfl (lv_at hl 0 rfl) ?_
  refine va_iald hx hb hK hP 1 0 rfl rfl (by unfold vp_in; decide) d_Planner_loadsInAll_15 ?_
  refine lv_iadd hx hb d_Planner_loadsInAll_16 ?_
  refine lv_istore_n (lv' := [(1, .int (((0 + (lt 0)) + (lt 1)) + (lt 2))), (2, .int 2), (0, .ref aL)]) hx hb d_Planner_loadsInAll_17 rfl hl (by decide) rfl (fun ls hl => ?_)
  refine lv_iinc (v := 3) (lv' := [(2, .int 3), (1, .int (((0 + (lt 0)) + (lt 1)) + (lt 2))), (0, .ref aL)]) hx hb d_Planner_loadsInAll_18 hl (k := 1) rfl (by decide) (by decide) rfl (fun ls hl => ?_)
  refine lv_goto (tgt := 4) hx hb d_Planner_loadsInAll_21 (by decide) ?_
  refine lv_iload_n hx hb d_Planner_loadsInAll_4 rfl (lv_at hl 0 rfl) ?_
  refine lv_iconst (v := 4) hx hb d_Planner_loadsInAll_5 (by decide) ?_
  refine lv_icmp_ge (tgt := 24) hx hb d_Planner_loadsInAll_6 (by decide) (fun c6_4 => ?_) (fun c6_4 => ?_)
  · exact absurd c6_4 (by decide)
  refine lv_iload_n hx hb d_Planner_loadsInAll_9 rfl (lv_at hl 1 rfl) ?_
  refine lv_aload_n hx hb d_Planner_loadsInAll_10 rfl (lv_at hl 2 rfl) ?_
  refine va_get (D := (dC, dI)) (ci := 6) (v := .ref bL4) (C := R_Planner) (T := F_Planner) (N := 5) hx hb hwg iu_Planner hown hK hP 0 rfl rfl 3 (by decide) (hwg _ kw_90) (fun _ h9 => h9) rfl d_Planner_loadsInAll_11 ?_
  refine lv_iload_n hx hb d_Planner_loadsInAll_14 rfl (lv_at hl 0 rfl) ?_
  refine va_iald hx hb hK hP 1 0 rfl rfl (by unfold vp_in; decide) d_Planner_loadsInAll_15 ?_
  refine lv_iadd hx hb d_Planner_loadsInAll_16 ?_
  refine lv_istore_n (lv' := [(1, .int ((((0 + (lt 0)) + (lt 1)) + (lt 2)) + (lt 3))), (2, .int 3), (0, .ref aL)]) hx hb d_Planner_loadsInAll_17 rfl hl (by decide) rfl (fun ls hl => ?_)
  refine lv_iinc (v := 4) (lv' := [(2, .int 4), (1, .int ((((0 + (lt 0)) + (lt 1)) + (lt 2)) + (lt 3))), (0, .ref aL)]) hx hb d_Planner_loadsInAll_18 hl (k := 1) rfl (by decide) (by decide) rfl (fun ls hl => ?_)
  refine lv_goto (tgt := 4) hx hb d_Planner_loadsInAll_21 (by decide) ?_
  refine lv_iload_n hx hb d_Planner_loadsInAll_4 rfl (lv_at hl 0 rfl) ?_
  refine lv_iconst (v := 4) hx hb d_Planner_loadsInAll_5 (by decide) ?_
  refine lv_icmp_ge (tgt := 24) hx hb d_Planner_loadsInAll_6 (by decide) (fun c6_5 => ?_) (fun c6_5 => ?_)
  rotate_left
  · exact absurd c6_5 (by decide)
  refine lv_iload_n hx hb d_Planner_loadsInAll_24 rfl (lv_at hl 1 rfl) ?_
  have hP9 := hP.sub (ws' := [(aL, .inr (6, [.ref bL1, .ref bL2, .ref bL3, .ref bL4, .int fo])), (bL4, .inl (cI, 4, .inl lt))]) [0, 1] rfl
  have hD9 := hD.sub (ws' := [(aL, .inr (6, [.ref bL1, .ref bL2, .ref bL3, .ref bL4, .int fo])), (bL4, .inl (cI, 4, .inl lt))]) [0, 1] (by decide) rfl
  exact W.iret (v := (((0 + (lt 0)) + (lt 1)) + (lt 2)) + (lt 3)) hx hb hr (fun t ht hW => ⟨⟨(((0 + (lt 0)) + (lt 1)) + (lt 2)) + (lt 3), (), rfl, by simp only [f_Planner_loadsInAll], by rw [ht]; exact hP9, hD9⟩, hS.F ht⟩) hS.2.2 d_Planner_loadsInAll_25
def f_Planner_mostTimes (lg : Nat → Int32) (p1 : Int32) : Int32 := if (lg (Int32.toNatClampNeg p1)) ≤ 0 then (0) else (9)
abbrev rm_Planner_mostTimes : Room := { frames := 0, cells := 0, slots := 0, locals := 0 }
set_option maxHeartbeats 4000000 in
set_option maxRecDepth 100000 in
theorem c_Planner_mostTimes (l : Launch) (dC : Nat → ClassId) (dI : Nat → Nat → Nat) (cI cL cZ : ClassId) (aL bL1 bL2 bL3 bL4 : Nat) (sz : Nat) (fo : Int32) (lg : Nat → Int32) (p1 : Int32) (hp : vp_in p1 4) : Met l y_Planner_mostTimes w_Planner_mostTimes rm_Planner_mostTimes (va_Pc [.ref aL, .int p1] (c_pre dC dI cI cL cZ [(aL, .inr (6, [.ref bL1, .ref bL2, .ref bL3, .ref bL4, .int fo])), (bL1, .inl (cI, 4, .inl lg))] sz)) (va_Qi (fun (r : Int32) (_ : Unit) => f_Planner_mostTimes lg p1 = r) (c_post dC dI (fun (u : Unit) => [(aL, .inr (6, [.ref bL1, .ref bL2, .ref bL3, .ref bL4, .int fo])), (bL1, .inl (cI, 4, .inl lg))]) (va_A [(aL, .inr (6, [.ref bL1, .ref bL2, .ref bL3, .ref bL4, .int fo])), (bL1, .inl (cI, 4, .inl lg))] sz)) (va_A [(aL, .inr (6, [.ref bL1, .ref bL2, .ref bL3, .ref bL4, .int fo])), (bL1, .inl (cI, 4, .inl lg))] sz)) 0 0 (va_A [(aL, .inr (6, [.ref bL1, .ref bL2, .ref bL3, .ref bL4, .int fo])), (bL1, .inl (cI, 4, .inl lg))] sz) := by
  refine Met.ofW (cc := b_Planner_mostTimes) (maxL := 2) (ret := (some .int)) (by decide) rfl ?_
  intro p e s m args below meth c s₁ B hml hv
  obtain ⟨rfl, hsz, hP, hK, hN, hD0⟩ := hv
  have hx := B.exec
  have hb := B.bytes
  have hr := B.returns
  have hts := atoms_spec (ws := w_Planner_mostTimes) B.pre
  have hown : s.vm.findClass R_Planner = some m.cls := findClass_of_methodNamed B.named
  have hlocks := B.notSynchronized
  have hwg : ∀ w ∈ wg, w.before ([.ref aL, .int p1] : List Value).toArray s = true := fun w h => hts w (List.mem_cons_of_mem _ h)
  subst hsz
  have hD := hD0.self (sz := s.heap.size)
  generalize hAe : va_A [(aL, .inr (6, [.ref bL1, .ref bL2, .ref bL3, .ref bL4, .int fo])), (bL1, .inl (cI, 4, .inl lg))] s.heap.size = A at hD ⊢
  have hA : ∀ q : Nat, s.heap.size ≤ q → A q := fun q h => by rw [← hAe]; exact Or.inr h
  have hS : va_S A s.heap s.heap [] := va_S.rf
  have hP : va_P (dC, dI) vwCl [(aL, .inr (6, [.ref bL1, .ref bL2, .ref bL3, .ref bL4, .int fo])), (bL1, .inl (cI, 4, .inl lg))] s.heap := hP
  have hl := lv_entry ([.ref aL, .int p1]) (n := 2) (Nat.le_of_ble_eq_true rfl)
  rw [lg_entry_eq]
  generalize (lg_sl ([.ref aL, .int p1]) ++ List.replicate (2 - (lg_sl ([.ref aL, .int p1])).length) Slot.unset).toArray = ls at hl ⊢
  have hl : lv_has ls 2 [(0, .ref aL), (1, .int p1)] := hl
  refine lv_aload_n hx hb d_Planner_mostTimes_0 rfl (lv_at hl 0 rfl) ?_
  refine va_get (D := (dC, dI)) (ci := 6) (v := .ref bL1) (C := R_Planner) (T := F_Planner) (N := 5) hx hb hwg iu_Planner hown hK hP 0 rfl rfl 0 (by decide) (hwg _ kw_87) (fun _ h9 => h9) rfl d_Planner_mostTimes_1 ?_
  refine lv_iload_n hx hb d_Planner_mostTimes_4 rfl (lv_at hl 1 rfl) ?_
  refine va_iald hx hb hK hP 1 0 rfl rfl hp d_Planner_mostTimes_5 ?_
  refine lv_if_le (tgt := 14) hx hb d_Planner_mostTimes_6 (by decide) (fun (c6 : (lg (Int32.toNatClampNeg p1)) ≤ 0) => ?_) (fun (c6 : ¬ ((lg (Int32.toNatClampNeg p1)) ≤ 0)) => ?_)
  · refine lv_iconst (v := 0) hx hb d_Planner_mostTimes_14 (by decide) ?_
    have hP9 := hP.sub (ws' := [(aL, .inr (6, [.ref bL1, .ref bL2, .ref bL3, .ref bL4, .int fo])), (bL1, .inl (cI, 4, .inl lg))]) [0, 1] rfl
    have hD9 := hD.sub (ws' := [(aL, .inr (6, [.ref bL1, .ref bL2, .ref bL3, .ref bL4, .int fo])), (bL1, .inl (cI, 4, .inl lg))]) [0, 1] (by decide) rfl
    exact W.iret (v := 0) hx hb hr (fun t ht hW => ⟨⟨0, (), rfl, by simp only [f_Planner_mostTimes, if_pos c6], by rw [ht]; exact hP9, hD9⟩, hS.F ht⟩) hS.2.2 d_Planner_mostTimes_15
  · refine lv_bipush (v := 9) hx hb d_Planner_mostTimes_9 (by decide) ?_
    refine lv_goto (tgt := 15) hx hb d_Planner_mostTimes_11 (by decide) ?_
    have hP9 := hP.sub (ws' := [(aL, .inr (6, [.ref bL1, .ref bL2, .ref bL3, .ref bL4, .int fo])), (bL1, .inl (cI, 4, .inl lg))]) [0, 1] rfl
    have hD9 := hD.sub (ws' := [(aL, .inr (6, [.ref bL1, .ref bL2, .ref bL3, .ref bL4, .int fo])), (bL1, .inl (cI, 4, .inl lg))]) [0, 1] (by decide) rfl
    exact W.iret (v := 9) hx hb hr (fun t ht hW => ⟨⟨9, (), rfl, by simp only [f_Planner_mostTimes, if_neg c6], by rw [ht]; exact hP9, hD9⟩, hS.F ht⟩) hS.2.2 d_Planner_mostTimes_15
theorem most_le {lg : Nat → Int32} {i r : Int32} (w : f_Planner_mostTimes lg i = r) : r.toInt ≤ 9 := by
  rw [← w]; unfold f_Planner_mostTimes; split
  · decide
  · decide
theorem in_pl {lg : Nat → Int32} {i r k : Int32} (h : vp_in k 11) (w : f_Planner_mostTimes lg i = r) (c : ¬ r < k) : vp_in (k + 1) 11 := by
  have h9 := most_le w
  rw [Int32.lt_iff_toInt_lt] at c; rw [vp_in_iff] at h ⊢
  rw [i_add] <;> rw [t_1] <;> omega
theorem pl_lt {lg : Nat → Int32} {i r k : Int32} {n : Nat} (h : vp_in k 11) (w : f_Planner_mostTimes lg i = r) (c : ¬ r < k) (hm : 10 - k.toNatClampNeg < n + 1) : 10 - (k + 1).toNatClampNeg < n := by
  have h9 := most_le w
  rw [Int32.lt_iff_toInt_lt] at c; rw [vp_in_iff] at h; rw [cl_i] at hm ⊢
  rw [i_add] <;> rw [t_1] <;> omega
def f_Planner_sum (row : Nat → Int32) (p2 : Int32) (p3 : Int32) (p4 : Int32) : Int32 := ((p2 * (row 0)) + (p3 * (row 1))) + (p4 * (row 2))
abbrev rm_Planner_sum : Room := { frames := 0, cells := 0, slots := 0, locals := 0 }
set_option maxHeartbeats 4000000 in
set_option maxRecDepth 100000 in
theorem c_Planner_sum (l : Launch) (dC : Nat → ClassId) (dI : Nat → Nat → Nat) (cI cL cZ : ClassId) (a0 : Nat) (sz : Nat) (row : Nat → Int32) (p2 : Int32) (p3 : Int32) (p4 : Int32) : Met l y_Planner_sum w_Planner_sum rm_Planner_sum (va_Pc [.ref a0, .int p2, .int p3, .int p4] (c_pre dC dI cI cL cZ [(a0, .inl (cI, 4, .inl row))] sz)) (va_Qi (fun (r : Int32) (_ : Unit) => f_Planner_sum row p2 p3 p4 = r) (c_post dC dI (fun (u : Unit) => [(a0, .inl (cI, 4, .inl row))]) (va_A [(a0, .inl (cI, 4, .inl row))] sz)) (va_A [(a0, .inl (cI, 4, .inl row))] sz)) 0 0 (va_A [(a0, .inl (cI, 4, .inl row))] sz) := by
  refine Met.ofW (cc := b_Planner_sum) (maxL := 4) (ret := (some .int)) (by decide) rfl ?_
  intro p e s m args below meth c s₁ B hml hv
  obtain ⟨rfl, hsz, hP, hK, hN, hD0⟩ := hv
  have hx := B.exec
  have hb := B.bytes
  have hr := B.returns
  have hts := atoms_spec (ws := w_Planner_sum) B.pre
  have hown : s.vm.findClass R_Planner = some m.cls := findClass_of_methodNamed B.named
  have hlocks := B.notSynchronized
  have hwg : ∀ w ∈ wg, w.before ([.ref a0, .int p2, .int p3, .int p4] : List Value).toArray s = true := fun w h => hts w (List.mem_cons_of_mem _ h)
  subst hsz
  have hD := hD0.self (sz := s.heap.size)
  generalize hAe : va_A [(a0, .inl (cI, 4, .inl row))] s.heap.size = A at hD ⊢
  have hA : ∀ q : Nat, s.heap.size ≤ q → A q := fun q h => by rw [← hAe]; exact Or.inr h
  have hS : va_S A s.heap s.heap [] := va_S.rf
  have hP : va_P (dC, dI) vwCl [(a0, .inl (cI, 4, .inl row))] s.heap := hP
  have hl := lv_entry ([.ref a0, .int p2, .int p3, .int p4]) (n := 4) (Nat.le_of_ble_eq_true rfl)
  rw [lg_entry_eq]
  generalize (lg_sl ([.ref a0, .int p2, .int p3, .int p4]) ++ List.replicate (4 - (lg_sl ([.ref a0, .int p2, .int p3, .int p4])).length) Slot.unset).toArray = ls at hl ⊢
  have hl : lv_has ls 4 [(0, .ref a0), (1, .int p2), (2, .int p3), (3, .int p4)] := hl
  refine lv_iload_n hx hb d_Planner_sum_0 rfl (lv_at hl 1 rfl) ?_
  refine lv_aload_n hx hb d_Planner_sum_1 rfl (lv_at hl 0 rfl) ?_
  refine lv_iconst (v := 0) hx hb d_Planner_sum_2 (by decide) ?_
  refine va_iald hx hb hK hP 0 0 rfl rfl (by unfold vp_in; decide) d_Planner_sum_3 ?_
  refine lv_imul hx hb d_Planner_sum_4 ?_
  refine lv_iload_n hx hb d_Planner_sum_5 rfl (lv_at hl 2 rfl) ?_
  refine lv_aload_n hx hb d_Planner_sum_6 rfl (lv_at hl 0 rfl) ?_
  refine lv_iconst (v := 1) hx hb d_Planner_sum_7 (by decide) ?_
  refine va_iald hx hb hK hP 0 0 rfl rfl (by unfold vp_in; decide) d_Planner_sum_8 ?_
  refine lv_imul hx hb d_Planner_sum_9 ?_
  refine lv_iadd hx hb d_Planner_sum_10 ?_
  refine lv_iload_n hx hb d_Planner_sum_11 rfl (lv_at hl 3 rfl) ?_
  refine lv_aload_n hx hb d_Planner_sum_12 rfl (lv_at hl 0 rfl) ?_
  refine lv_iconst (v := 2) hx hb d_Planner_sum_13 (by decide) ?_
  refine va_iald hx hb hK hP 0 0 rfl rfl (by unfold vp_in; decide) d_Planner_sum_14 ?_
  refine lv_imul hx hb d_Planner_sum_15 ?_
  refine lv_iadd hx hb d_Planner_sum_16 ?_
  have hP9 := hP.sub (ws' := [(a0, .inl (cI, 4, .inl row))]) [0] rfl
  have hD9 := hD.sub (ws' := [(a0, .inl (cI, 4, .inl row))]) [0] (by decide) rfl
  exact W.iret (v := ((p2 * (row 0)) + (p3 * (row 1))) + (p4 * (row 2))) hx hb hr (fun t ht hW => ⟨⟨((p2 * (row 0)) + (p3 * (row 1))) + (p4 * (row 2)), (), rfl, by simp only [f_Planner_sum], by rw [ht]; exact hP9, hD9⟩, hS.F ht⟩) hS.2.2 d_Planner_sum_17
def f_Planner_fewestOfLast (lx : Nat → Int32) (p1 : Int32) : Int32 := if 0 < p1 then (if 0 < (lx 3) then (if 9 < (((p1 + (lx 3)) - 1) / (lx 3)) then ((-1)) else (((p1 + (lx 3)) - 1) / (lx 3))) else ((-1))) else (0)
abbrev rm_Planner_fewestOfLast : Room := { frames := 0, cells := 0, slots := 0, locals := 0 }
set_option maxHeartbeats 4000000 in
set_option maxRecDepth 100000 in
theorem c_Planner_fewestOfLast (l : Launch) (dC : Nat → ClassId) (dI : Nat → Nat → Nat) (cI cL cZ : ClassId) (aL bL1 bL2 bL3 bL4 : Nat) (sz : Nat) (fo : Int32) (lx : Nat → Int32) (p1 : Int32) : Met l y_Planner_fewestOfLast w_Planner_fewestOfLast rm_Planner_fewestOfLast (va_Pc [.ref aL, .int p1] (c_pre dC dI cI cL cZ [(aL, .inr (6, [.ref bL1, .ref bL2, .ref bL3, .ref bL4, .int fo])), (bL3, .inl (cI, 4, .inl lx))] sz)) (va_Qi (fun (r : Int32) (_ : Unit) => f_Planner_fewestOfLast lx p1 = r) (c_post dC dI (fun (u : Unit) => [(aL, .inr (6, [.ref bL1, .ref bL2, .ref bL3, .ref bL4, .int fo])), (bL3, .inl (cI, 4, .inl lx))]) (va_A [(aL, .inr (6, [.ref bL1, .ref bL2, .ref bL3, .ref bL4, .int fo])), (bL3, .inl (cI, 4, .inl lx))] sz)) (va_A [(aL, .inr (6, [.ref bL1, .ref bL2, .ref bL3, .ref bL4, .int fo])), (bL3, .inl (cI, 4, .inl lx))] sz)) 0 0 (va_A [(aL, .inr (6, [.ref bL1, .ref bL2, .ref bL3, .ref bL4, .int fo])), (bL3, .inl (cI, 4, .inl lx))] sz) := by
  refine Met.ofW (cc := b_Planner_fewestOfLast) (maxL := 4) (ret := (some .int)) (by decide) rfl ?_
  intro p e s m args below meth c s₁ B hml hv
  obtain ⟨rfl, hsz, hP, hK, hN, hD0⟩ := hv
  have hx := B.exec
  have hb := B.bytes
  have hr := B.returns
  have hts := atoms_spec (ws := w_Planner_fewestOfLast) B.pre
  have hown : s.vm.findClass R_Planner = some m.cls := findClass_of_methodNamed B.named
  have hlocks := B.notSynchronized
  have hwg : ∀ w ∈ wg, w.before ([.ref aL, .int p1] : List Value).toArray s = true := fun w h => hts w (List.mem_cons_of_mem _ h)
  subst hsz
  have hD := hD0.self (sz := s.heap.size)
  generalize hAe : va_A [(aL, .inr (6, [.ref bL1, .ref bL2, .ref bL3, .ref bL4, .int fo])), (bL3, .inl (cI, 4, .inl lx))] s.heap.size = A at hD ⊢
  have hA : ∀ q : Nat, s.heap.size ≤ q → A q := fun q h => by rw [← hAe]; exact Or.inr h
  have hS : va_S A s.heap s.heap [] := va_S.rf
  have hP : va_P (dC, dI) vwCl [(aL, .inr (6, [.ref bL1, .ref bL2, .ref bL3, .ref bL4, .int fo])), (bL3, .inl (cI, 4, .inl lx))] s.heap := hP
  have hl := lv_entry ([.ref aL, .int p1]) (n := 4) (Nat.le_of_ble_eq_true rfl)
  rw [lg_entry_eq]
  generalize (lg_sl ([.ref aL, .int p1]) ++ List.replicate (4 - (lg_sl ([.ref aL, .int p1])).length) Slot.unset).toArray = ls at hl ⊢
  have hl : lv_has ls 4 [(0, .ref aL), (1, .int p1)] := hl
  refine lv_iload_n hx hb d_Planner_fewestOfLast_0 rfl (lv_at hl 1 rfl) ?_
  refine lv_if_gt (tgt := 6) hx hb d_Planner_fewestOfLast_1 (by decide) (fun (c1 : 0 < p1) => ?_) (fun (c1 : ¬ (0 < p1)) => ?_)
  · refine lv_aload_n hx hb d_Planner_fewestOfLast_6 rfl (lv_at hl 0 rfl) ?_
    refine va_get (D := (dC, dI)) (ci := 6) (v := .ref bL3) (C := R_Planner) (T := F_Planner) (N := 5) hx hb hwg iu_Planner hown hK hP 0 rfl rfl 2 (by decide) (hwg _ kw_89) (fun _ h9 => h9) rfl d_Planner_fewestOfLast_7 ?_
    refine lv_iconst (v := 3) hx hb d_Planner_fewestOfLast_10 (by decide) ?_
    refine va_iald hx hb hK hP 1 0 rfl rfl (by unfold vp_in; decide) d_Planner_fewestOfLast_11 ?_
    refine lv_istore_n (lv' := [(2, .int (lx 3)), (0, .ref aL), (1, .int p1)]) hx hb d_Planner_fewestOfLast_12 rfl hl (by decide) rfl (fun ls hl => ?_)
    refine lv_iload_n hx hb d_Planner_fewestOfLast_13 rfl (lv_at hl 0 rfl) ?_
    refine lv_if_gt (tgt := 19) hx hb d_Planner_fewestOfLast_14 (by decide) (fun (c14 : 0 < (lx 3)) => ?_) (fun (c14 : ¬ (0 < (lx 3))) => ?_)
    · refine lv_iload_n hx hb d_Planner_fewestOfLast_19 rfl (lv_at hl 2 rfl) ?_
      refine lv_iload_n hx hb d_Planner_fewestOfLast_20 rfl (lv_at hl 0 rfl) ?_
      refine lv_iadd hx hb d_Planner_fewestOfLast_21 ?_
      refine lv_iconst (v := 1) hx hb d_Planner_fewestOfLast_22 (by decide) ?_
      refine lv_isub hx hb d_Planner_fewestOfLast_23 ?_
      refine lv_iload_n hx hb d_Planner_fewestOfLast_24 rfl (lv_at hl 0 rfl) ?_
      refine lv_idiv hx hb d_Planner_fewestOfLast_25 (ne_gt c14) ?_
      refine lv_istore_n (lv' := [(3, .int (((p1 + (lx 3)) - 1) / (lx 3))), (2, .int (lx 3)), (0, .ref aL), (1, .int p1)]) hx hb d_Planner_fewestOfLast_26 rfl hl (by decide) rfl (fun ls hl => ?_)
      refine lv_iload_n hx hb d_Planner_fewestOfLast_27 rfl (lv_at hl 0 rfl) ?_
      refine lv_bipush (v := 9) hx hb d_Planner_fewestOfLast_28 (by decide) ?_
      refine lv_icmp_gt (tgt := 37) hx hb d_Planner_fewestOfLast_30 (by decide) (fun (c30 : 9 < (((p1 + (lx 3)) - 1) / (lx 3))) => ?_) (fun (c30 : ¬ (9 < (((p1 + (lx 3)) - 1) / (lx 3)))) => ?_)
      · refine lv_iconst (v := (-1)) hx hb d_Planner_fewestOfLast_37 (by decide) ?_
        have hP9 := hP.sub (ws' := [(aL, .inr (6, [.ref bL1, .ref bL2, .ref bL3, .ref bL4, .int fo])), (bL3, .inl (cI, 4, .inl lx))]) [0, 1] rfl
        have hD9 := hD.sub (ws' := [(aL, .inr (6, [.ref bL1, .ref bL2, .ref bL3, .ref bL4, .int fo])), (bL3, .inl (cI, 4, .inl lx))]) [0, 1] (by decide) rfl
        exact W.iret (v := (-1)) hx hb hr (fun t ht hW => ⟨⟨(-1), (), rfl, by simp only [f_Planner_fewestOfLast, if_pos c1, if_pos c14, if_pos c30], by rw [ht]; exact hP9, hD9⟩, hS.F ht⟩) hS.2.2 d_Planner_fewestOfLast_38
      · refine lv_iload_n hx hb d_Planner_fewestOfLast_33 rfl (lv_at hl 0 rfl) ?_
        refine lv_goto (tgt := 38) hx hb d_Planner_fewestOfLast_34 (by decide) ?_
        have hP9 := hP.sub (ws' := [(aL, .inr (6, [.ref bL1, .ref bL2, .ref bL3, .ref bL4, .int fo])), (bL3, .inl (cI, 4, .inl lx))]) [0, 1] rfl
        have hD9 := hD.sub (ws' := [(aL, .inr (6, [.ref bL1, .ref bL2, .ref bL3, .ref bL4, .int fo])), (bL3, .inl (cI, 4, .inl lx))]) [0, 1] (by decide) rfl
        exact W.iret (v := ((p1 + (lx 3)) - 1) / (lx 3)) hx hb hr (fun t ht hW => ⟨⟨((p1 + (lx 3)) - 1) / (lx 3), (), rfl, by simp only [f_Planner_fewestOfLast, if_pos c1, if_pos c14, if_neg c30], by rw [ht]; exact hP9, hD9⟩, hS.F ht⟩) hS.2.2 d_Planner_fewestOfLast_38
    · refine lv_iconst (v := (-1)) hx hb d_Planner_fewestOfLast_17 (by decide) ?_
      have hP9 := hP.sub (ws' := [(aL, .inr (6, [.ref bL1, .ref bL2, .ref bL3, .ref bL4, .int fo])), (bL3, .inl (cI, 4, .inl lx))]) [0, 1] rfl
      have hD9 := hD.sub (ws' := [(aL, .inr (6, [.ref bL1, .ref bL2, .ref bL3, .ref bL4, .int fo])), (bL3, .inl (cI, 4, .inl lx))]) [0, 1] (by decide) rfl
      exact W.iret (v := (-1)) hx hb hr (fun t ht hW => ⟨⟨(-1), (), rfl, by simp only [f_Planner_fewestOfLast, if_pos c1, if_neg c14], by rw [ht]; exact hP9, hD9⟩, hS.F ht⟩) hS.2.2 d_Planner_fewestOfLast_18
  · refine lv_iconst (v := 0) hx hb d_Planner_fewestOfLast_4 (by decide) ?_
    have hP9 := hP.sub (ws' := [(aL, .inr (6, [.ref bL1, .ref bL2, .ref bL3, .ref bL4, .int fo])), (bL3, .inl (cI, 4, .inl lx))]) [0, 1] rfl
    have hD9 := hD.sub (ws' := [(aL, .inr (6, [.ref bL1, .ref bL2, .ref bL3, .ref bL4, .int fo])), (bL3, .inl (cI, 4, .inl lx))]) [0, 1] (by decide) rfl
    exact W.iret (v := 0) hx hb hr (fun t ht hW => ⟨⟨0, (), rfl, by simp only [f_Planner_fewestOfLast, if_neg c1], by rw [ht]; exact hP9, hD9⟩, hS.F ht⟩) hS.2.2 d_Planner_fewestOfLast_5
def f_Planner_keep (lt : Nat → Int32) (p1 : Int32) (p2 : Int32) (p3 : Int32) (p4 : Int32) : Int32 × (Nat → Int32) := (1, upd (upd (upd (upd lt 0 p1) 1 p2) 2 p3) 3 p4)
abbrev rm_Planner_keep : Room := { frames := 0, cells := 0, slots := 0, locals := 0 }
set_option maxHeartbeats 4000000 in
set_option maxRecDepth 100000 in
theorem c_Planner_keep (l : Launch) (dC : Nat → ClassId) (dI : Nat → Nat → Nat) (cI cL cZ : ClassId) (aL bL1 bL2 bL3 bL4 : Nat) (sz : Nat) (fo : Int32) (lt : Nat → Int32) (p1 : Int32) (p2 : Int32) (p3 : Int32) (p4 : Int32) : Met l y_Planner_keep w_Planner_keep rm_Planner_keep (va_Pc [.ref aL, .int p1, .int p2, .int p3, .int p4] (c_pre dC dI cI cL cZ [(aL, .inr (6, [.ref bL1, .ref bL2, .ref bL3, .ref bL4, .int fo])), (bL4, .inl (cI, 4, .inl lt))] sz)) (va_Qv (fun (u : Int32 × (Nat → Int32)) => f_Planner_keep lt p1 p2 p3 p4 = u) (c_post dC dI (fun (u : Int32 × (Nat → Int32)) => [(aL, .inr (6, [.ref bL1, .ref bL2, .ref bL3, .ref bL4, .int u.1])), (bL4, .inl (cI, 4, .inl u.2))]) (va_A [(aL, .inr (6, [.ref bL1, .ref bL2, .ref bL3, .ref bL4, .int fo])), (bL4, .inl (cI, 4, .inl lt))] sz)) (va_A [(aL, .inr (6, [.ref bL1, .ref bL2, .ref bL3, .ref bL4, .int fo])), (bL4, .inl (cI, 4, .inl lt))] sz)) 0 0 (va_A [(aL, .inr (6, [.ref bL1, .ref bL2, .ref bL3, .ref bL4, .int fo])), (bL4, .inl (cI, 4, .inl lt))] sz) := by
  refine Met.ofW (cc := b_Planner_keep) (maxL := 5) (ret := none) (by decide) rfl ?_
  intro p e s m args below meth c s₁ B hml hv
  obtain ⟨rfl, hsz, hP, hK, hN, hD0⟩ := hv
  have hx := B.exec
  have hb := B.bytes
  have hr := B.returns
  have hts := atoms_spec (ws := w_Planner_keep) B.pre
  have hown : s.vm.findClass R_Planner = some m.cls := findClass_of_methodNamed B.named
  have hlocks := B.notSynchronized
  have hwg : ∀ w ∈ wg, w.before ([.ref aL, .int p1, .int p2, .int p3, .int p4] : List Value).toArray s = true := fun w h => hts w (List.mem_cons_of_mem _ h)
  subst hsz
  have hD := hD0.self (sz := s.heap.size)
  generalize hAe : va_A [(aL, .inr (6, [.ref bL1, .ref bL2, .ref bL3, .ref bL4, .int fo])), (bL4, .inl (cI, 4, .inl lt))] s.heap.size = A at hD ⊢
  have hA : ∀ q : Nat, s.heap.size ≤ q → A q := fun q h => by rw [← hAe]; exact Or.inr h
  have hS : va_S A s.heap s.heap [] := va_S.rf
  have hP : va_P (dC, dI) vwCl [(aL, .inr (6, [.ref bL1, .ref bL2, .ref bL3, .ref bL4, .int fo])), (bL4, .inl (cI, 4, .inl lt))] s.heap := hP
  have hl := lv_entry ([.ref aL, .int p1, .int p2, .int p3, .int p4]) (n := 5) (Nat.le_of_ble_eq_true rfl)
  rw [lg_entry_eq]
  generalize (lg_sl ([.ref aL, .int p1, .int p2, .int p3, .int p4]) ++ List.replicate (5 - (lg_sl ([.ref aL, .int p1, .int p2, .int p3, .int p4])).length) Slot.unset).toArray = ls at hl ⊢
  have hl : lv_has ls 5 [(0, .ref aL), (1, .int p1), (2, .int p2), (3, .int p3), (4, .int p4)] := hl
  refine lv_aload_n hx hb d_Planner_keep_0 rfl (lv_at hl 0 rfl) ?_
  refine va_get (D := (dC, dI)) (ci := 6) (v := .ref bL4) (C := R_Planner) (T := F_Planner) (N := 5) hx hb hwg iu_Planner hown hK hP 0 rfl rfl 3 (by decide) (hwg _ kw_90) (fun _ h9 => h9) rfl d_Planner_keep_1 ?_
  refine lv_iconst (v := 0) hx hb d_Planner_keep_4 (by decide) ?_
  refine lv_iload_n hx hb d_Planner_keep_5 rfl (lv_at hl 1 rfl) ?_
  refine va_iast hx hb hK hP hD hS 1 0 rfl rfl (by unfold vp_in; decide) d_Planner_keep_6 (fun H6 locs hP hD hS => ?_)
  have hP : va_P (dC, dI) vwCl [(aL, .inr (6, [.ref bL1, .ref bL2, .ref bL3, .ref bL4, .int fo])), (bL4, .inl (cI, 4, .inl (upd lt 0 p1)))] H6 := hP
  have hD : va_D A [(aL, .inr (6, [.ref bL1, .ref bL2, .ref bL3, .ref bL4, .int fo])), (bL4, .inl (cI, 4, .inl (upd lt 0 p1)))] := hD
  refine lv_aload_n hx hb d_Planner_keep_7 rfl (lv_at hl 0 rfl) ?_
  refine va_get (D := (dC, dI)) (ci := 6) (v := .ref bL4) (C := R_Planner) (T := F_Planner) (N := 5) hx hb hwg iu_Planner hown hK hP 0 rfl rfl 3 (by decide) (hwg _ kw_90) (fun _ h9 => h9) rfl d_Planner_keep_8 ?_
  refine lv_iconst (v := 1) hx hb d_Planner_keep_11 (by decide) ?_
  refine lv_iload_n hx hb d_Planner_keep_12 rfl (lv_at hl 2 rfl) ?_
  refine va_iast hx hb hK hP hD hS 1 0 rfl rfl (by unfold vp_in; decide) d_Planner_keep_13 (fun H13 locs hP hD hS => ?_)
  have hP : va_P (dC, dI) vwCl [(aL, .inr (6, [.ref bL1, .ref bL2, .ref bL3, .ref bL4, .int fo])), (bL4, .inl (cI, 4, .inl (upd (upd lt 0 p1) 1 p2)))] H13 := hP
  have hD : va_D A [(aL, .inr (6, [.ref bL1, .ref bL2, .ref bL3, .ref bL4, .int fo])), (bL4, .inl (cI, 4, .inl (upd (upd lt 0 p1) 1 p2)))] := hD
  refine lv_aload_n hx hb d_Planner_keep_14 rfl (lv_at hl 0 rfl) ?_
  refine va_get (D := (dC, dI)) (ci := 6) (v := .ref bL4) (C := R_Planner) (T := F_Planner) (N := 5) hx hb hwg iu_Planner hown hK hP 0 rfl rfl 3 (by decide) (hwg _ kw_90) (fun _ h9 => h9) rfl d_Planner_keep_15 ?_
  refine lv_iconst (v := 2) hx hb d_Planner_keep_18 (by decide) ?_
  refine lv_iload_n hx hb d_Planner_keep_19 rfl (lv_at hl 3 rfl) ?_
  refine va_iast hx hb hK hP hD hS 1 0 rfl rfl (by unfold vp_in; decide) d_Planner_keep_20 (fun H20 locs hP hD hS => ?_)
  have hP : va_P (dC, dI) vwCl [(aL, .inr (6, [.ref bL1, .ref bL2, .ref bL3, .ref bL4, .int fo])), (bL4, .inl (cI, 4, .inl (upd (upd (upd lt 0 p1) 1 p2) 2 p3)))] H20 := hP
  have hD : va_D A [(aL, .inr (6, [.ref bL1, .ref bL2, .ref bL3, .ref bL4, .int fo])), (bL4, .inl (cI, 4, .inl (upd (upd (upd lt 0 p1) 1 p2) 2 p3)))] := hD
  refine lv_aload_n hx hb d_Planner_keep_21 rfl (lv_at hl 0 rfl) ?_
  refine va_get (D := (dC, dI)) (ci := 6) (v := .ref bL4) (C := R_Planner) (T := F_Planner) (N := 5) hx hb hwg iu_Planner hown hK hP 0 rfl rfl 3 (by decide) (hwg _ kw_90) (fun _ h9 => h9) rfl d_Planner_keep_22 ?_
  refine lv_iconst (v := 3) hx hb d_Planner_keep_25 (by decide) ?_
  refine lv_iload hx hb d_Planner_keep_26 (lv_at hl 4 rfl) ?_
  refine va_iast hx hb hK hP hD hS 1 0 rfl rfl (by unfold vp_in; decide) d_Planner_keep_28 (fun H28 locs hP hD hS => ?_)
  have hP : va_P (dC, dI) vwCl [(aL, .inr (6, [.ref bL1, .ref bL2, .ref bL3, .ref bL4, .int fo])), (bL4, .inl (cI, 4, .inl (upd (upd (upd (upd lt 0 p1) 1 p2) 2 p3) 3 p4)))] H28 := hP
  have hD : va_D A [(aL, .inr (6, [.ref bL1, .ref bL2, .ref bL3, .ref bL4, .int fo])), (bL4, .inl (cI, 4, .inl (upd (upd (upd (upd lt 0 p1) 1 p2) 2 p3) 3 p4)))] := hD
  refine lv_aload_n hx hb d_Planner_keep_29 rfl (lv_at hl 0 rfl) ?_
  refine lv_iconst (v := 1) hx hb d_Planner_keep_30 (by decide) ?_
  refine va_put (D := (dC, dI)) (ci := 6) (v := .int 1) (ty := .boolean) (C := R_Planner) (T := F_Planner) (N := 5) hx hb hwg iu_Planner t_Planner t_Planner_ok n_Planner hown hK hP hD hS 0 rfl rfl 4 (by decide) (hwg _ kw_91) (fun _ h9 => h9) rfl (by decide +kernel) rfl rfl (Nat.le_of_ble_eq_true rfl) d_Planner_keep_31 (fun H31 locs hP hD hS => ?_)
  have hP : va_P (dC, dI) vwCl [(aL, .inr (6, [.ref bL1, .ref bL2, .ref bL3, .ref bL4, .int 1])), (bL4, .inl (cI, 4, .inl (upd (upd (upd (upd lt 0 p1) 1 p2) 2 p3) 3 p4)))] H31 := hP
  have hD : va_D A [(aL, .inr (6, [.ref bL1, .ref bL2, .ref bL3, .ref bL4, .int 1])), (bL4, .inl (cI, 4, .inl (upd (upd (upd (upd lt 0 p1) 1 p2) 2 p3) 3 p4)))] := hD
  have hP9 := hP.sub (ws' := [(aL, .inr (6, [.ref bL1, .ref bL2, .ref bL3, .ref bL4, .int 1])), (bL4, .inl (cI, 4, .inl (upd (upd (upd (upd lt 0 p1) 1 p2) 2 p3) 3 p4)))]) [0, 1] rfl
  have hD9 := hD.sub (ws' := [(aL, .inr (6, [.ref bL1, .ref bL2, .ref bL3, .ref bL4, .int 1])), (bL4, .inl (cI, 4, .inl (upd (upd (upd (upd lt 0 p1) 1 p2) 2 p3) 3 p4)))]) [0, 1] (by decide) rfl
  exact W.vret hx hb hr (fun t ht hW => ⟨⟨(1, upd (upd (upd (upd lt 0 p1) 1 p2) 2 p3) 3 p4), rfl, by simp only [f_Planner_keep], by rw [ht]; exact hP9, hD9⟩, hS.F ht⟩) hS.2.2 d_Planner_keep_34
def f_Planner_find_L29 (k16 : Int32 → Int32 → Int32 → (Nat → Int32) → Int32 × Int32 × (Nat → Int32)) (lg : Nat → Int32) (lc : Nat → Int32) (lx : Nat → Int32) (p1 : Int32) (ka : Int32) (kb : Int32) : Nat → Int32 → Int32 → Int32 → (Nat → Int32) → Int32 × Int32 × (Nat → Int32)
  | 0, _, _, _, _ => (0, 0, fun _ => 0)
  | n + 1, lsc, kc, foc, ltc => let r33 := f_Planner_mostTimes lg 2; if r33 < kc then (k16 lsc (kb + 1) foc ltc) else (let r50 := f_Planner_sum lx ka kb kc; let r54 := f_Planner_fewestOfLast lx (p1 - r50); if r54 = (-1) then (f_Planner_find_L29 k16 lg lc lx p1 ka kb n lsc (kc + 1) foc ltc) else (let r78 := f_Planner_sum lc ka kb kc; if (r78 + (r54 * (lc 3))) = (-1) then (f_Planner_find_L29 k16 lg lc lx p1 ka kb n lsc (kc + 1) foc ltc) else (if lsc = (-1) then (match f_Planner_keep ltc ka kb kc r54 with | (foc_121, ltc_121) => f_Planner_find_L29 k16 lg lc lx p1 ka kb n (r78 + (r54 * (lc 3))) (kc + 1) foc_121 ltc_121) else (if lsc ≤ (r78 + (r54 * (lc 3))) then (f_Planner_find_L29 k16 lg lc lx p1 ka kb n lsc (kc + 1) foc ltc) else (match f_Planner_keep ltc ka kb kc r54 with | (foc_121, ltc_121) => f_Planner_find_L29 k16 lg lc lx p1 ka kb n (r78 + (r54 * (lc 3))) (kc + 1) foc_121 ltc_121)))))
def f_Planner_find_L16 (k4 : Int32 → Int32 → Int32 → (Nat → Int32) → Int32 × Int32 × (Nat → Int32)) (lg : Nat → Int32) (lc : Nat → Int32) (lx : Nat → Int32) (p1 : Int32) (ka : Int32) : Nat → Int32 → Int32 → Int32 → (Nat → Int32) → Int32 × Int32 × (Nat → Int32)
  | 0, _, _, _, _ => (0, 0, fun _ => 0)
  | n + 1, lsb, kb, fob, ltb => let r20 := f_Planner_mostTimes lg 1; if r20 < kb then (k4 lsb (ka + 1) fob ltb) else (f_Planner_find_L29 (f_Planner_find_L16 k4 lg lc lx p1 ka n) lg lc lx p1 ka kb 11 lsb 0 fob ltb)
def f_Planner_find_L4 (lg : Nat → Int32) (lc : Nat → Int32) (lx : Nat → Int32) (p1 : Int32) : Nat → Int32 → Int32 → Int32 → (Nat → Int32) → Int32 × Int32 × (Nat → Int32)
  | 0, _, _, _, _ => (0, 0, fun _ => 0)
  | n + 1, lsa, ka, foa, lta => let r7 := f_Planner_mostTimes lg 0; if r7 < ka then ((lsa, foa, lta)) else (f_Planner_find_L16 (f_Planner_find_L4 lg lc lx p1 n) lg lc lx p1 ka 11 lsa 0 foa lta)
def f_Planner_find (fo : Int32) (lg : Nat → Int32) (lc : Nat → Int32) (lx : Nat → Int32) (lt : Nat → Int32) (p1 : Int32) : Int32 × Int32 × (Nat → Int32) := f_Planner_find_L4 lg lc lx p1 11 (-1) 0 fo lt
abbrev rm_Planner_find : Room := { frames := 1, cells := 0, slots := 0, locals := 24 }
set_option maxHeartbeats 4000000 in
set_option maxRecDepth 100000 in
theorem c_Planner_find (l : Launch) (dC : Nat → ClassId) (dI : Nat → Nat → Nat) (cI cL cZ : ClassId) (aL bL1 bL2 bL3 bL4 : Nat) (sz : Nat) (fo : Int32) (lg : Nat → Int32) (lc : Nat → Int32) (lx : Nat → Int32) (lt : Nat → Int32) (p1 : Int32) : Met l y_Planner_find w_Planner_find rm_Planner_find (va_Pc [.ref aL, .int p1] (c_pre dC dI cI cL cZ [(aL, .inr (6, [.ref bL1, .ref bL2, .ref bL3, .ref bL4, .int fo])), (bL1, .inl (cI, 4, .inl lg)), (bL2, .inl (cI, 4, .inl lc)), (bL3, .inl (cI, 4, .inl lx)), (bL4, .inl (cI, 4, .inl lt))] sz)) (va_Qi (fun (r : Int32) (u : Int32 × (Nat → Int32)) => f_Planner_find fo lg lc lx lt p1 = (r, u)) (c_post dC dI (fun (u : Int32 × (Nat → Int32)) => [(aL, .inr (6, [.ref bL1, .ref bL2, .ref bL3, .ref bL4, .int u.1])), (bL1, .inl (cI, 4, .inl lg)), (bL2, .inl (cI, 4, .inl lc)), (bL3, .inl (cI, 4, .inl lx)), (bL4, .inl (cI, 4, .inl u.2))]) (va_A [(aL, .inr (6, [.ref bL1, .ref bL2, .ref bL3, .ref bL4, .int fo])), (bL1, .inl (cI, 4, .inl lg)), (bL2, .inl (cI, 4, .inl lc)), (bL3, .inl (cI, 4, .inl lx)), (bL4, .inl (cI, 4, .inl lt))] sz)) (va_A [(aL, .inr (6, [.ref bL1, .ref bL2, .ref bL3, .ref bL4, .int fo])), (bL1, .inl (cI, 4, .inl lg)), (bL2, .inl (cI, 4, .inl lc)), (bL3, .inl (cI, 4, .inl lx)), (bL4, .inl (cI, 4, .inl lt))] sz)) 0 0 (va_A [(aL, .inr (6, [.ref bL1, .ref bL2, .ref bL3, .ref bL4, .int fo])), (bL1, .inl (cI, 4, .inl lg)), (bL2, .inl (cI, 4, .inl lc)), (bL3, .inl (cI, 4, .inl lx)), (bL4, .inl (cI, 4, .inl lt))] sz) := by
  refine Met.ofW (cc := b_Planner_find) (maxL := 8) (ret := (some .int)) (by decide) rfl ?_
  intro p e s m args below meth c s₁ B hml hv
  obtain ⟨rfl, hsz, hP, hK, hN, hD0⟩ := hv
  have hx := B.exec
  have hb := B.bytes
  have hr := B.returns
  have hts := atoms_spec (ws := w_Planner_find) B.pre
  have hown : s.vm.findClass R_Planner = some m.cls := findClass_of_methodNamed B.named
  have hlocks := B.notSynchronized
  have hwg : ∀ w ∈ wg, w.before ([.ref aL, .int p1] : List Value).toArray s = true := fun w h => hts w (List.mem_cons_of_mem _ h)
  subst hsz
  have hD := hD0.self (sz := s.heap.size)
  generalize hAe : va_A [(aL, .inr (6, [.ref bL1, .ref bL2, .ref bL3, .ref bL4, .int fo])), (bL1, .inl (cI, 4, .inl lg)), (bL2, .inl (cI, 4, .inl lc)), (bL3, .inl (cI, 4, .inl lx)), (bL4, .inl (cI, 4, .inl lt))] s.heap.size = A at hD ⊢
  have hA : ∀ q : Nat, s.heap.size ≤ q → A q := fun q h => by rw [← hAe]; exact Or.inr h
  have hS : va_S A s.heap s.heap [] := va_S.rf
  have hP : va_P (dC, dI) vwCl [(aL, .inr (6, [.ref bL1, .ref bL2, .ref bL3, .ref bL4, .int fo])), (bL1, .inl (cI, 4, .inl lg)), (bL2, .inl (cI, 4, .inl lc)), (bL3, .inl (cI, 4, .inl lx)), (bL4, .inl (cI, 4, .inl lt))] s.heap := hP
  have hl := lv_entry ([.ref aL, .int p1]) (n := 8) (Nat.le_of_ble_eq_true rfl)
  rw [lg_entry_eq]
  generalize (lg_sl ([.ref aL, .int p1]) ++ List.replicate (8 - (lg_sl ([.ref aL, .int p1])).length) Slot.unset).toArray = ls at hl ⊢
  have hl : lv_has ls 8 [(0, .ref aL), (1, .int p1)] := hl
  refine lv_iconst (v := (-1)) hx hb d_Planner_find_0 (by decide) ?_
  refine lv_istore_n (lv' := [(2, .int (-1)), (0, .ref aL), (1, .int p1)]) hx hb d_Planner_find_1 rfl hl (by decide) rfl (fun ls hl => ?_)
  refine lv_iconst (v := 0) hx hb d_Planner_find_2 (by decide) ?_
  refine lv_istore_n (lv' := [(3, .int 0), (2, .int (-1)), (0, .ref aL), (1, .int p1)]) hx hb d_Planner_find_3 rfl hl (by decide) rfl (fun ls hl => ?_)
  have loop4 : ∀ (n4 : Nat) (lsa : Int32) (ka : Int32) (foa : Int32) (lta : Nat → Int32) (H4 : Heap) (locs : List Loc) (ls : Array Slot), 10 - ka.toNatClampNeg < n4 → (vp_in ka 11) → f_Planner_find fo lg lc lx lt p1 = f_Planner_find_L4 lg lc lx p1 n4 lsa ka foa lta → va_P (dC, dI) vwCl [(aL, .inr (6, [.ref bL1, .ref bL2, .ref bL3, .ref bL4, .int foa])), (bL1, .inl (cI, 4, .inl lg)), (bL2, .inl (cI, 4, .inl lc)), (bL3, .inl (cI, 4, .inl lx)), (bL4, .inl (cI, 4, .inl lta))] H4 → va_D A [(aL, .inr (6, [.ref bL1, .ref bL2, .ref bL3, .ref bL4, .int foa])), (bL1, .inl (cI, 4, .inl lg)), (bL2, .inl (cI, 4, .inl lc)), (bL3, .inl (cI, 4, .inl lx)), (bL4, .inl (cI, 4, .inl lta))] → va_S A s.heap H4 locs → lv_has ls 8 [(0, .ref aL), (1, .int p1), (2, .int lsa), (3, .int ka)] → W p l e (headSpec w_Planner_find rm_Planner_find).room s m ([.ref aL, .int p1] : List Value).toArray below meth c H4 locs 0 0 (MQ below (va_Qi (fun (r : Int32) (u : Int32 × (Nat → Int32)) => f_Planner_find fo lg lc lx lt p1 = (r, u)) (c_post dC dI (fun (u : Int32 × (Nat → Int32)) => [(aL, .inr (6, [.ref bL1, .ref bL2, .ref bL3, .ref bL4, .int u.1])), (bL1, .inl (cI, 4, .inl lg)), (bL2, .inl (cI, 4, .inl lc)), (bL3, .inl (cI, 4, .inl lx)), (bL4, .inl (cI, 4, .inl u.2))]) A) A) ([.ref aL, .int p1] : List Value).toArray s 0 0 A) (F0 m 4 ls []) := by
    intro n4
    induction n4 with
    | zero => intro lsa ka foa lta H4 locs ls hm; exact absurd hm (Nat.not_lt_zero _)
    | succ n4 ih4 =>
      intro lsa ka foa lta H4 locs ls hm4 hka hF4 hP hD hS hl
      refine lv_iload_n hx hb d_Planner_find_4 rfl (lv_at hl 3 rfl) ?_
      refine lv_aload_n hx hb d_Planner_find_5 rfl (lv_at hl 0 rfl) ?_
      refine lv_iconst (v := 0) hx hb d_Planner_find_6 (by decide) ?_
      have hPc := hP.sub (ws' := [(aL, .inr (6, [.ref bL1, .ref bL2, .ref bL3, .ref bL4, .int foa])), (bL1, .inl (cI, 4, .inl lg))]) [0, 1] rfl
      have hDc := hD.sub (ws' := [(aL, .inr (6, [.ref bL1, .ref bL2, .ref bL3, .ref bL4, .int foa])), (bL1, .inl (cI, 4, .inl lg))]) [0, 1] (by decide) rfl
      refine k_calli hP hD hS hA [0, 1] [2, 3, 4] (wc := [(aL, .inr (6, [.ref bL1, .ref bL2, .ref bL3, .ref bL4, .int foa])), (bL1, .inl (cI, 4, .inl lg))]) (wr := [(bL2, .inl (cI, 4, .inl lc)), (bL3, .inl (cI, 4, .inl lx)), (bL4, .inl (cI, 4, .inl lta))]) rfl rfl (by decide) (by decide) (va_runV (As := [.int 0]) (rest := [.int ka]) ⟨hx, hb, hml, hown, hwg⟩ (c_Planner_mostTimes l dC dI cI cL cZ aL bL1 bL2 bL3 bL4 H4.size foa lg 0 (by unfold vp_in; decide)) (cwV 1 hwg (g_V kw_291 kw_292 kw_7 kw_20 kw_293) rfl rfl rfl (by decide +kernel) ⟨Nat.le_of_ble_eq_true rfl, Nat.le_of_ble_eq_true rfl⟩) ⟨c_pre_call, va_recv hK hPc (ci := 6) (q0 := 0) rfl rfl, c_pre_mk hPc hDc hK hN _⟩ rfl rfl hl.1 rfl (lv_room (Nat.le_of_ble_eq_true rfl)) d_Planner_find_7 ⟨Nat.le_of_ble_eq_true rfl, Nat.le_of_ble_eq_true rfl⟩) (fun r7 u H7 locs w7 hz1 hP hD hS => ?_)
      have hP := hP.sub (ws' := [(aL, .inr (6, [.ref bL1, .ref bL2, .ref bL3, .ref bL4, .int foa])), (bL1, .inl (cI, 4, .inl lg)), (bL2, .inl (cI, 4, .inl lc)), (bL3, .inl (cI, 4, .inl lx)), (bL4, .inl (cI, 4, .inl lta))]) [3, 4, 0, 1, 2] rfl
      have hD := hD.sub (ws' := [(aL, .inr (6, [.ref bL1, .ref bL2, .ref bL3, .ref bL4, .int foa])), (bL1, .inl (cI, 4, .inl lg)), (bL2, .inl (cI, 4, .inl lc)), (bL3, .inl (cI, 4, .inl lx)), (bL4, .inl (cI, 4, .inl lta))]) [3, 4, 0, 1, 2] (by decide) rfl
      refine lv_icmp_gt (tgt := 142) hx hb d_Planner_find_10 (by decide) (fun (c10 : r7 < ka) => ?_) (fun (c10 : ¬ (r7 < ka)) => ?_)
      · refine lv_iload_n hx hb d_Planner_find_142 rfl (lv_at hl 2 rfl) ?_
        have hP9 := hP.sub (ws' := [(aL, .inr (6, [.ref bL1, .ref bL2, .ref bL3, .ref bL4, .int foa])), (bL1, .inl (cI, 4, .inl lg)), (bL2, .inl (cI, 4, .inl lc)), (bL3, .inl (cI, 4, .inl lx)), (bL4, .inl (cI, 4, .inl lta))]) [0, 1, 2, 3, 4] rfl
        have hD9 := hD.sub (ws' := [(aL, .inr (6, [.ref bL1, .ref bL2, .ref bL3, .ref bL4, .int foa])), (bL1, .inl (cI, 4, .inl lg)), (bL2, .inl (cI, 4, .inl lc)), (bL3, .inl (cI, 4, .inl lx)), (bL4, .inl (cI, 4, .inl lta))]) [0, 1, 2, 3, 4] (by decide) rfl
        exact W.iret (v := lsa) hx hb hr (fun t ht hW => ⟨⟨lsa, (foa, lta), rfl, by rw [hF4]; simp only [f_Planner_find_L4, w7, if_pos c10], by rw [ht]; exact hP9, hD9⟩, hS.F ht⟩) hS.2.2 d_Planner_find_143
      · refine lv_iconst (v := 0) hx hb d_Planner_find_13 (by decide) ?_
        refine lv_istore (lv' := [(4, .int 0), (0, .ref aL), (1, .int p1), (2, .int lsa), (3, .int ka)]) hx hb d_Planner_find_14 hl (by decide) rfl (fun ls hl => ?_)
        have loop16 : ∀ (n16 : Nat) (lsb : Int32) (kb : Int32) (fob : Int32) (ltb : Nat → Int32) (H16 : Heap) (locs : List Loc) (ls : Array Slot), 10 - kb.toNatClampNeg < n16 → (vp_in kb 11) → f_Planner_find fo lg lc lx lt p1 = f_Planner_find_L16 (f_Planner_find_L4 lg lc lx p1 n4) lg lc lx p1 ka n16 lsb kb fob ltb → va_P (dC, dI) vwCl [(aL, .inr (6, [.ref bL1, .ref bL2, .ref bL3, .ref bL4, .int fob])), (bL1, .inl (cI, 4, .inl lg)), (bL2, .inl (cI, 4, .inl lc)), (bL3, .inl (cI, 4, .inl lx)), (bL4, .inl (cI, 4, .inl ltb))] H16 → va_D A [(aL, .inr (6, [.ref bL1, .ref bL2, .ref bL3, .ref bL4, .int fob])), (bL1, .inl (cI, 4, .inl lg)), (bL2, .inl (cI, 4, .inl lc)), (bL3, .inl (cI, 4, .inl lx)), (bL4, .inl (cI, 4, .inl ltb))] → va_S A s.heap H16 locs → lv_has ls 8 [(0, .ref aL), (1, .int p1), (2, .int lsb), (3, .int ka), (4, .int kb)] → W p l e (headSpec w_Planner_find rm_Planner_find).room s m ([.ref aL, .int p1] : List Value).toArray below meth c H16 locs 0 0 (MQ below (va_Qi (fun (r : Int32) (u : Int32 × (Nat → Int32)) => f_Planner_find fo lg lc lx lt p1 = (r, u)) (c_post dC dI (fun (u : Int32 × (Nat → Int32)) => [(aL, .inr (6, [.ref bL1, .ref bL2, .ref bL3, .ref bL4, .int u.1])), (bL1, .inl (cI, 4, .inl lg)), (bL2, .inl (cI, 4, .inl lc)), (bL3, .inl (cI, 4, .inl lx)), (bL4, .inl (cI, 4, .inl u.2))]) A) A) ([.ref aL, .int p1] : List Value).toArray s 0 0 A) (F0 m 16 ls []) := by
          intro n16
          induction n16 with
          | zero => intro lsb kb fob ltb H16 locs ls hm; exact absurd hm (Nat.not_lt_zero _)
          | succ n16 ih16 =>
            intro lsb kb fob ltb H16 locs ls hm16 hkb hF16 hP hD hS hl
            refine lv_iload hx hb d_Planner_find_16 (lv_at hl 4 rfl) ?_
            refine lv_aload_n hx hb d_Planner_find_18 rfl (lv_at hl 0 rfl) ?_
            refine lv_iconst (v := 1) hx hb d_Planner_find_19 (by decide) ?_
            have hPc := hP.sub (ws' := [(aL, .inr (6, [.ref bL1, .ref bL2, .ref bL3, .ref bL4, .int fob])), (bL1, .inl (cI, 4, .inl lg))]) [0, 1] rfl
            have hDc := hD.sub (ws' := [(aL, .inr (6, [.ref bL1, .ref bL2, .ref bL3, .ref bL4, .int fob])), (bL1, .inl (cI, 4, .inl lg))]) [0, 1] (by decide) rfl
            refine k_calli hP hD hS hA [0, 1] [2, 3, 4] (wc := [(aL, .inr (6, [.ref bL1, .ref bL2, .ref bL3, .ref bL4, .int fob])), (bL1, .inl (cI, 4, .inl lg))]) (wr := [(bL2, .inl (cI, 4, .inl lc)), (bL3, .inl (cI, 4, .inl lx)), (bL4, .inl (cI, 4, .inl ltb))]) rfl rfl (by decide) (by decide) (va_runV (As := [.int 1]) (rest := [.int kb]) ⟨hx, hb, hml, hown, hwg⟩ (c_Planner_mostTimes l dC dI cI cL cZ aL bL1 bL2 bL3 bL4 H16.size fob lg 1 (by unfold vp_in; decide)) (cwV 1 hwg (g_V kw_291 kw_292 kw_7 kw_20 kw_293) rfl rfl rfl (by decide +kernel) ⟨Nat.le_of_ble_eq_true rfl, Nat.le_of_ble_eq_true rfl⟩) ⟨c_pre_call, va_recv hK hPc (ci := 6) (q0 := 0) rfl rfl, c_pre_mk hPc hDc hK hN _⟩ rfl rfl hl.1 rfl (lv_room (Nat.le_of_ble_eq_true rfl)) d_Planner_find_20 ⟨Nat.le_of_ble_eq_true rfl, Nat.le_of_ble_eq_true rfl⟩) (fun r20 u H20 locs w20 hz1 hP hD hS => ?_)
            have hP := hP.sub (ws' := [(aL, .inr (6, [.ref bL1, .ref bL2, .ref bL3, .ref bL4, .int fob])), (bL1, .inl (cI, 4, .inl lg)), (bL2, .inl (cI, 4, .inl lc)), (bL3, .inl (cI, 4, .inl lx)), (bL4, .inl (cI, 4, .inl ltb))]) [3, 4, 0, 1, 2] rfl
            have hD := hD.sub (ws' := [(aL, .inr (6, [.ref bL1, .ref bL2, .ref bL3, .ref bL4, .int fob])), (bL1, .inl (cI, 4, .inl lg)), (bL2, .inl (cI, 4, .inl lc)), (bL3, .inl (cI, 4, .inl lx)), (bL4, .inl (cI, 4, .inl ltb))]) [3, 4, 0, 1, 2] (by decide) rfl
            refine lv_icmp_gt (tgt := 136) hx hb d_Planner_find_23 (by decide) (fun (c23 : r20 < kb) => ?_) (fun (c23 : ¬ (r20 < kb)) => ?_)
            · refine lv_iinc (v := ka + 1) (lv' := [(3, .int (ka + 1)), (0, .ref aL), (1, .int p1), (2, .int lsb), (4, .int kb)]) hx hb d_Planner_find_136 hl (k := 3) rfl rfl (by decide) rfl (fun ls hl => ?_)
              refine lv_goto (tgt := 4) hx hb d_Planner_find_139 (by decide) ?_
              exact ih4 lsb (ka + 1) fob ltb _ _ _ (pl_lt hka w7 c10 hm4) (in_pl hka w7 c10) (by rw [hF16]; simp only [f_Planner_find_L16, w20, if_pos c23]) hP hD hS (lv_sub hl [1, 2, 3, 0] rfl)
            · refine lv_iconst (v := 0) hx hb d_Planner_find_26 (by decide) ?_
              refine lv_istore (lv' := [(5, .int 0), (0, .ref aL), (1, .int p1), (2, .int lsb), (3, .int ka), (4, .int kb)]) hx hb d_Planner_find_27 hl (by decide) rfl (fun ls hl => ?_)
              have loop29 : ∀ (n29 : Nat) (lsc : Int32) (kc : Int32) (foc : Int32) (ltc : Nat → Int32) (H29 : Heap) (locs : List Loc) (ls : Array Slot), 10 - kc.toNatClampNeg < n29 → (vp_in kc 11) → f_Planner_find fo lg lc lx lt p1 = f_Planner_find_L29 (f_Planner_find_L16 (f_Planner_find_L4 lg lc lx p1 n4) lg lc lx p1 ka n16) lg lc lx p1 ka kb n29 lsc kc foc ltc → va_P (dC, dI) vwCl [(aL, .inr (6, [.ref bL1, .ref bL2, .ref bL3, .ref bL4, .int foc])), (bL1, .inl (cI, 4, .inl lg)), (bL2, .inl (cI, 4, .inl lc)), (bL3, .inl (cI, 4, .inl lx)), (bL4, .inl (cI, 4, .inl ltc))] H29 → va_D A [(aL, .inr (6, [.ref bL1, .ref bL2, .ref bL3, .ref bL4, .int foc])), (bL1, .inl (cI, 4, .inl lg)), (bL2, .inl (cI, 4, .inl lc)), (bL3, .inl (cI, 4, .inl lx)), (bL4, .inl (cI, 4, .inl ltc))] → va_S A s.heap H29 locs → lv_has ls 8 [(0, .ref aL), (1, .int p1), (2, .int lsc), (3, .int ka), (4, .int kb), (5, .int kc)] → W p l e (headSpec w_Planner_find rm_Planner_find).room s m ([.ref aL, .int p1] : List Value).toArray below meth c H29 locs 0 0 (MQ below (va_Qi (fun (r : Int32) (u : Int32 × (Nat → Int32)) => f_Planner_find fo lg lc lx lt p1 = (r, u)) (c_post dC dI (fun (u : Int32 × (Nat → Int32)) => [(aL, .inr (6, [.ref bL1, .ref bL2, .ref bL3, .ref bL4, .int u.1])), (bL1, .inl (cI, 4, .inl lg)), (bL2, .inl (cI, 4, .inl lc)), (bL3, .inl (cI, 4, .inl lx)), (bL4, .inl (cI, 4, .inl u.2))]) A) A) ([.ref aL, .int p1] : List Value).toArray s 0 0 A) (F0 m 29 ls []) := by
                intro n29
                induction n29 with
                | zero => intro lsc kc foc ltc H29 locs ls hm; exact absurd hm (Nat.not_lt_zero _)
                | succ n29 ih29 =>
                  intro lsc kc foc ltc H29 locs ls hm29 hkc hF29 hP hD hS hl
                  refine lv_iload hx hb d_Planner_find_29 (lv_at hl 5 rfl) ?_
                  refine lv_aload_n hx hb d_Planner_find_31 rfl (lv_at hl 0 rfl) ?_
                  refine lv_iconst (v := 2) hx hb d_Planner_find_32 (by decide) ?_
                  have hPc := hP.sub (ws' := [(aL, .inr (6, [.ref bL1, .ref bL2, .ref bL3, .ref bL4, .int foc])), (bL1, .inl (cI, 4, .inl lg))]) [0, 1] rfl
                  have hDc := hD.sub (ws' := [(aL, .inr (6, [.ref bL1, .ref bL2, .ref bL3, .ref bL4, .int foc])), (bL1, .inl (cI, 4, .inl lg))]) [0, 1] (by decide) rfl
                  refine k_calli hP hD hS hA [0, 1] [2, 3, 4] (wc := [(aL, .inr (6, [.ref bL1, .ref bL2, .ref bL3, .ref bL4, .int foc])), (bL1, .inl (cI, 4, .inl lg))]) (wr := [(bL2, .inl (cI, 4, .inl lc)), (bL3, .inl (cI, 4, .inl lx)), (bL4, .inl (cI, 4, .inl ltc))]) rfl rfl (by decide) (by decide) (va_runV (As := [.int 2]) (rest := [.int kc]) ⟨hx, hb, hml, hown, hwg⟩ (c_Planner_mostTimes l dC dI cI cL cZ aL bL1 bL2 bL3 bL4 H29.size foc lg 2 (by unfold vp_in; decide)) (cwV 1 hwg (g_V kw_291 kw_292 kw_7 kw_20 kw_293) rfl rfl rfl (by decide +kernel) ⟨Nat.le_of_ble_eq_true rfl, Nat.le_of_ble_eq_true rfl⟩) ⟨c_pre_call, va_recv hK hPc (ci := 6) (q0 := 0) rfl rfl, c_pre_mk hPc hDc hK hN _⟩ rfl rfl hl.1 rfl (lv_room (Nat.le_of_ble_eq_true rfl)) d_Planner_find_33 ⟨Nat.le_of_ble_eq_true rfl, Nat.le_of_ble_eq_true rfl⟩) (fun r33 u H33 locs w33 hz1 hP hD hS => ?_)
                  have hP := hP.sub (ws' := [(aL, .inr (6, [.ref bL1, .ref bL2, .ref bL3, .ref bL4, .int foc])), (bL1, .inl (cI, 4, .inl lg)), (bL2, .inl (cI, 4, .inl lc)), (bL3, .inl (cI, 4, .inl lx)), (bL4, .inl (cI, 4, .inl ltc))]) [3, 4, 0, 1, 2] rfl
                  have hD := hD.sub (ws' := [(aL, .inr (6, [.ref bL1, .ref bL2, .ref bL3, .ref bL4, .int foc])), (bL1, .inl (cI, 4, .inl lg)), (bL2, .inl (cI, 4, .inl lc)), (bL3, .inl (cI, 4, .inl lx)), (bL4, .inl (cI, 4, .inl ltc))]) [3, 4, 0, 1, 2] (by decide) rfl
                  refine lv_icmp_gt (tgt := 130) hx hb d_Planner_find_36 (by decide) (fun (c36 : r33 < kc) => ?_) (fun (c36 : ¬ (r33 < kc)) => ?_)
                  · refine lv_iinc (v := kb + 1) (lv' := [(4, .int (kb + 1)), (0, .ref aL), (1, .int p1), (2, .int lsc), (3, .int ka), (5, .int kc)]) hx hb d_Planner_find_130 hl (k := 4) rfl rfl (by decide) rfl (fun ls hl => ?_)
                    refine lv_goto (tgt := 16) hx hb d_Planner_find_133 (by decide) ?_
                    exact ih16 lsc (kb + 1) foc ltc _ _ _ (pl_lt hkb w20 c23 hm16) (in_pl hkb w20 c23) (by rw [hF29]; simp only [f_Planner_find_L29, w33, if_pos c36]) hP hD hS (lv_sub hl [1, 2, 3, 4, 0] rfl)
                  · refine lv_aload_n hx hb d_Planner_find_39 rfl (lv_at hl 0 rfl) ?_
                    refine lv_iload_n hx hb d_Planner_find_40 rfl (lv_at hl 1 rfl) ?_
                    refine lv_aload_n hx hb d_Planner_find_41 rfl (lv_at hl 0 rfl) ?_
                    refine va_get (D := (dC, dI)) (ci := 6) (v := .ref bL3) (C := R_Planner) (T := F_Planner) (N := 5) hx hb hwg iu_Planner hown hK hP 0 rfl rfl 2 (by decide) (hwg _ kw_89) (fun _ h9 => h9) rfl d_Planner_find_42 ?_
                    refine lv_iload_n hx hb d_Planner_find_45 rfl (lv_at hl 3 rfl) ?_
                    refine lv_iload hx hb d_Planner_find_46 (lv_at hl 4 rfl) ?_
                    refine lv_iload hx hb d_Planner_find_48 (lv_at hl 5 rfl) ?_
                    have hPc := hP.sub (ws' := [(bL3, .inl (cI, 4, .inl lx))]) [3] rfl
                    have hDc := hD.sub (ws' := [(bL3, .inl (cI, 4, .inl lx))]) [3] (by decide) rfl
                    refine k_calli hP hD hS hA [3] [0, 1, 2, 4] (wc := [(bL3, .inl (cI, 4, .inl lx))]) (wr := [(aL, .inr (6, [.ref bL1, .ref bL2, .ref bL3, .ref bL4, .int foc])), (bL1, .inl (cI, 4, .inl lg)), (bL2, .inl (cI, 4, .inl lc)), (bL4, .inl (cI, 4, .inl ltc))]) rfl rfl (by decide) (by decide) (va_runS (As := [.ref bL3, .int ka, .int kb, .int kc]) (rest := [.int p1, .ref aL]) ⟨hx, hb, hml, hown, hwg⟩ (c_Planner_sum l dC dI cI cL cZ bL3 H33.size lx ka kb kc) (va_cwS 4 hwg (g_S kw_294 kw_295 kw_20 kw_296) rfl rfl rfl (by decide +kernel) ⟨Nat.le_of_ble_eq_true rfl, Nat.le_of_ble_eq_true rfl⟩) ⟨c_pre_call, c_pre_mk hPc hDc hK hN _⟩ rfl rfl hl.1 rfl (lv_room (Nat.le_of_ble_eq_true rfl)) d_Planner_find_50 ⟨Nat.le_of_ble_eq_true rfl, Nat.le_of_ble_eq_true rfl⟩) (fun r50 u H50 locs w50 hz1 hP hD hS => ?_)
                    have hP := hP.sub (ws' := [(aL, .inr (6, [.ref bL1, .ref bL2, .ref bL3, .ref bL4, .int foc])), (bL1, .inl (cI, 4, .inl lg)), (bL2, .inl (cI, 4, .inl lc)), (bL3, .inl (cI, 4, .inl lx)), (bL4, .inl (cI, 4, .inl ltc))]) [0, 1, 2, 4, 3] rfl
                    have hD := hD.sub (ws' := [(aL, .inr (6, [.ref bL1, .ref bL2, .ref bL3, .ref bL4, .int foc])), (bL1, .inl (cI, 4, .inl lg)), (bL2, .inl (cI, 4, .inl lc)), (bL3, .inl (cI, 4, .inl lx)), (bL4, .inl (cI, 4, .inl ltc))]) [0, 1, 2, 4, 3] (by decide) rfl
                    refine lv_isub hx hb d_Planner_find_53 ?_
                    have hPc := hP.sub (ws' := [(aL, .inr (6, [.ref bL1, .ref bL2, .ref bL3, .ref bL4, .int foc])), (bL3, .inl (cI, 4, .inl lx))]) [0, 3] rfl
                    have hDc := hD.sub (ws' := [(aL, .inr (6, [.ref bL1, .ref bL2, .ref bL3, .ref bL4, .int foc])), (bL3, .inl (cI, 4, .inl lx))]) [0, 3] (by decide) rfl
                    refine k_calli hP hD hS hA [0, 3] [1, 2, 4] (wc := [(aL, .inr (6, [.ref bL1, .ref bL2, .ref bL3, .ref bL4, .int foc])), (bL3, .inl (cI, 4, .inl lx))]) (wr := [(bL1, .inl (cI, 4, .inl lg)), (bL2, .inl (cI, 4, .inl lc)), (bL4, .inl (cI, 4, .inl ltc))]) rfl rfl (by decide) (by decide) (va_runV (As := [.int (p1 - r50)]) (rest := []) ⟨hx, hb, hml, hown, hwg⟩ (c_Planner_fewestOfLast l dC dI cI cL cZ aL bL1 bL2 bL3 bL4 H50.size foc lx (p1 - r50)) (cwV 1 hwg (g_V kw_297 kw_298 kw_8 kw_20 kw_299) rfl rfl rfl (by decide +kernel) ⟨Nat.le_of_ble_eq_true rfl, Nat.le_of_ble_eq_true rfl⟩) ⟨c_pre_call, va_recv hK hPc (ci := 6) (q0 := 0) rfl rfl, c_pre_mk hPc hDc hK hN _⟩ rfl rfl hl.1 rfl (lv_room (Nat.le_of_ble_eq_true rfl)) d_Planner_find_54 ⟨Nat.le_of_ble_eq_true rfl, Nat.le_of_ble_eq_true rfl⟩) (fun r54 u H54 locs w54 hz1 hP hD hS => ?_)
                    have hP := hP.sub (ws' := [(aL, .inr (6, [.ref bL1, .ref bL2, .ref bL3, .ref bL4, .int foc])), (bL1, .inl (cI, 4, .inl lg)), (bL2, .inl (cI, 4, .inl lc)), (bL3, .inl (cI, 4, .inl lx)), (bL4, .inl (cI, 4, .inl ltc))]) [3, 0, 1, 4, 2] rfl
                    have hD := hD.sub (ws' := [(aL, .inr (6, [.ref bL1, .ref bL2, .ref bL3, .ref bL4, .int foc])), (bL1, .inl (cI, 4, .inl lg)), (bL2, .inl (cI, 4, .inl lc)), (bL3, .inl (cI, 4, .inl lx)), (bL4, .inl (cI, 4, .inl ltc))]) [3, 0, 1, 4, 2] (by decide) rfl
                    refine lv_istore (lv' := [(6, .int r54), (0, .ref aL), (1, .int p1), (2, .int lsc), (3, .int ka), (4, .int kb), (5, .int kc)]) hx hb d_Planner_find_57 hl (by decide) rfl (fun ls hl => ?_)
                    refine lv_iload hx hb d_Planner_find_59 (lv_at hl 0 rfl) ?_
                    refine lv_iconst (v := (-1)) hx hb d_Planner_find_61 (by decide) ?_
                    refine lv_icmp_ne (tgt := 69) hx hb d_Planner_find_62 (by decide) (fun (c62 : ¬ (r54 = (-1))) => ?_) (fun (c62 : r54 = (-1)) => ?_)
                    · refine lv_aload_n hx hb d_Planner_find_69 rfl (lv_at hl 1 rfl) ?_
                      refine va_get (D := (dC, dI)) (ci := 6) (v := .ref bL2) (C := R_Planner) (T := F_Planner) (N := 5) hx hb hwg iu_Planner hown hK hP 0 rfl rfl 1 (by decide) (hwg _ kw_88) (fun _ h9 => h9) rfl d_Planner_find_70 ?_
                      refine lv_iload_n hx hb d_Planner_find_73 rfl (lv_at hl 4 rfl) ?_
                      refine lv_iload hx hb d_Planner_find_74 (lv_at hl 5 rfl) ?_
                      refine lv_iload hx hb d_Planner_find_76 (lv_at hl 6 rfl) ?_
                      have hPc := hP.sub (ws' := [(bL2, .inl (cI, 4, .inl lc))]) [2] rfl
                      have hDc := hD.sub (ws' := [(bL2, .inl (cI, 4, .inl lc))]) [2] (by decide) rfl
                      refine k_calli hP hD hS hA [2] [0, 1, 3, 4] (wc := [(bL2, .inl (cI, 4, .inl lc))]) (wr := [(aL, .inr (6, [.ref bL1, .ref bL2, .ref bL3, .ref bL4, .int foc])), (bL1, .inl (cI, 4, .inl lg)), (bL3, .inl (cI, 4, .inl lx)), (bL4, .inl (cI, 4, .inl ltc))]) rfl rfl (by decide) (by decide) (va_runS (As := [.ref bL2, .int ka, .int kb, .int kc]) (rest := []) ⟨hx, hb, hml, hown, hwg⟩ (c_Planner_sum l dC dI cI cL cZ bL2 H54.size lc ka kb kc) (va_cwS 4 hwg (g_S kw_294 kw_295 kw_20 kw_296) rfl rfl rfl (by decide +kernel) ⟨Nat.le_of_ble_eq_true rfl, Nat.le_of_ble_eq_true rfl⟩) ⟨c_pre_call, c_pre_mk hPc hDc hK hN _⟩ rfl rfl hl.1 rfl (lv_room (Nat.le_of_ble_eq_true rfl)) d_Planner_find_78 ⟨Nat.le_of_ble_eq_true rfl, Nat.le_of_ble_eq_true rfl⟩) (fun r78 u H78 locs w78 hz1 hP hD hS => ?_)
                      have hP := hP.sub (ws' := [(aL, .inr (6, [.ref bL1, .ref bL2, .ref bL3, .ref bL4, .int foc])), (bL1, .inl (cI, 4, .inl lg)), (bL2, .inl (cI, 4, .inl lc)), (bL3, .inl (cI, 4, .inl lx)), (bL4, .inl (cI, 4, .inl ltc))]) [0, 1, 4, 2, 3] rfl
                      have hD := hD.sub (ws' := [(aL, .inr (6, [.ref bL1, .ref bL2, .ref bL3, .ref bL4, .int foc])), (bL1, .inl (cI, 4, .inl lg)), (bL2, .inl (cI, 4, .inl lc)), (bL3, .inl (cI, 4, .inl lx)), (bL4, .inl (cI, 4, .inl ltc))]) [0, 1, 4, 2, 3] (by decide) rfl
                      refine lv_iload hx hb d_Planner_find_81 (lv_at hl 0 rfl) ?_
                      refine lv_aload_n hx hb d_Planner_find_83 rfl (lv_at hl 1 rfl) ?_
                      refine va_get (D := (dC, dI)) (ci := 6) (v := .ref bL2) (C := R_Planner) (T := F_Planner) (N := 5) hx hb hwg iu_Planner hown hK hP 0 rfl rfl 1 (by decide) (hwg _ kw_88) (fun _ h9 => h9) rfl d_Planner_find_84 ?_
                      refine lv_iconst (v := 3) hx hb d_Planner_find_87 (by decide) ?_
                      refine va_iald hx hb hK hP 2 0 rfl rfl (by unfold vp_in; decide) d_Planner_find_88 ?_
                      refine lv_imul hx hb d_Planner_find_89 ?_
                      refine lv_iadd hx hb d_Planner_find_90 ?_
                      refine lv_istore (lv' := [(7, .int (r78 + (r54 * (lc 3)))), (6, .int r54), (0, .ref aL), (1, .int p1), (2, .int lsc), (3, .int ka), (4, .int kb), (5, .int kc)]) hx hb d_Planner_find_91 hl (by decide) rfl (fun ls hl => ?_)
                      refine lv_iload hx hb d_Planner_find_93 (lv_at hl 0 rfl) ?_
                      refine lv_iconst (v := (-1)) hx hb d_Planner_find_95 (by decide) ?_
                      refine lv_icmp_eq (tgt := 124) hx hb d_Planner_find_96 (by decide) (fun (c96 : (r78 + (r54 * (lc 3))) = (-1)) => ?_) (fun (c96 : ¬ ((r78 + (r54 * (lc 3))) = (-1))) => ?_)
                      · refine lv_iinc (v := kc + 1) (lv' := [(5, .int (kc + 1)), (7, .int (r78 + (r54 * (lc 3)))), (6, .int r54), (0, .ref aL), (1, .int p1), (2, .int lsc), (3, .int ka), (4, .int kb)]) hx hb d_Planner_find_124 hl (k := 7) rfl rfl (by decide) rfl (fun ls hl => ?_)
                        refine lv_goto (tgt := 29) hx hb d_Planner_find_127 (by decide) ?_
                        exact ih29 lsc (kc + 1) foc ltc _ _ _ (pl_lt hkc w33 c36 hm29) (in_pl hkc w33 c36) (by rw [hF29]; simp only [f_Planner_find_L29, w33, if_neg c36, w50, w54, if_neg c62, w78, if_pos c96]) hP hD hS (lv_sub hl [3, 4, 5, 6, 7, 0] rfl)
                      · refine lv_iload_n hx hb d_Planner_find_99 rfl (lv_at hl 4 rfl) ?_
                        refine lv_iconst (v := (-1)) hx hb d_Planner_find_100 (by decide) ?_
                        refine lv_icmp_eq (tgt := 110) hx hb d_Planner_find_101 (by decide) (fun (c101 : lsc = (-1)) => ?_) (fun (c101 : ¬ (lsc = (-1))) => ?_)
                        · refine lv_iload hx hb d_Planner_find_110 (lv_at hl 0 rfl) ?_
                          refine lv_istore_n (lv' := [(2, .int (r78 + (r54 * (lc 3)))), (7, .int (r78 + (r54 * (lc 3)))), (6, .int r54), (0, .ref aL), (1, .int p1), (3, .int ka), (4, .int kb), (5, .int kc)]) hx hb d_Planner_find_112 rfl hl (by decide) rfl (fun ls hl => ?_)
                          refine lv_aload_n hx hb d_Planner_find_113 rfl (lv_at hl 3 rfl) ?_
                          refine lv_iload_n hx hb d_Planner_find_114 rfl (lv_at hl 5 rfl) ?_
                          refine lv_iload hx hb d_Planner_find_115 (lv_at hl 6 rfl) ?_
                          refine lv_iload hx hb d_Planner_find_117 (lv_at hl 7 rfl) ?_
                          refine lv_iload hx hb d_Planner_find_119 (lv_at hl 2 rfl) ?_
                          have hPc := hP.sub (ws' := [(aL, .inr (6, [.ref bL1, .ref bL2, .ref bL3, .ref bL4, .int foc])), (bL4, .inl (cI, 4, .inl ltc))]) [0, 4] rfl
                          have hDc := hD.sub (ws' := [(aL, .inr (6, [.ref bL1, .ref bL2, .ref bL3, .ref bL4, .int foc])), (bL4, .inl (cI, 4, .inl ltc))]) [0, 4] (by decide) rfl
                          refine k_callv hP hD hS hA [0, 4] [1, 2, 3] (wc := [(aL, .inr (6, [.ref bL1, .ref bL2, .ref bL3, .ref bL4, .int foc])), (bL4, .inl (cI, 4, .inl ltc))]) (wr := [(bL1, .inl (cI, 4, .inl lg)), (bL2, .inl (cI, 4, .inl lc)), (bL3, .inl (cI, 4, .inl lx))]) rfl rfl (by decide) (by decide) (va_runV (As := [.int ka, .int kb, .int kc, .int r54]) (rest := []) ⟨hx, hb, hml, hown, hwg⟩ (c_Planner_keep l dC dI cI cL cZ aL bL1 bL2 bL3 bL4 H78.size foc ltc ka kb kc r54) (cwV 4 hwg (g_V kw_300 kw_301 kw_9 kw_20 kw_302) rfl rfl rfl (by decide +kernel) ⟨Nat.le_of_ble_eq_true rfl, Nat.le_of_ble_eq_true rfl⟩) ⟨c_pre_call, va_recv hK hPc (ci := 6) (q0 := 0) rfl rfl, c_pre_mk hPc hDc hK hN _⟩ rfl rfl hl.1 rfl (lv_room (Nat.le_of_ble_eq_true rfl)) d_Planner_find_121 ⟨Nat.le_of_ble_eq_true rfl, Nat.le_of_ble_eq_true rfl⟩) (fun u H121 locs w121 hz1 hP hD hS => ?_)
                          obtain ⟨foc_121, ltc_121⟩ := u
                          have hP := hP.sub (ws' := [(aL, .inr (6, [.ref bL1, .ref bL2, .ref bL3, .ref bL4, .int foc_121])), (bL1, .inl (cI, 4, .inl lg)), (bL2, .inl (cI, 4, .inl lc)), (bL3, .inl (cI, 4, .inl lx)), (bL4, .inl (cI, 4, .inl ltc_121))]) [3, 0, 1, 2, 4] rfl
                          have hD := hD.sub (ws' := [(aL, .inr (6, [.ref bL1, .ref bL2, .ref bL3, .ref bL4, .int foc_121])), (bL1, .inl (cI, 4, .inl lg)), (bL2, .inl (cI, 4, .inl lc)), (bL3, .inl (cI, 4, .inl lx)), (bL4, .inl (cI, 4, .inl ltc_121))]) [3, 0, 1, 2, 4] (by decide) rfl
                          refine lv_iinc (v := kc + 1) (lv' := [(5, .int (kc + 1)), (2, .int (r78 + (r54 * (lc 3)))), (7, .int (r78 + (r54 * (lc 3)))), (6, .int r54), (0, .ref aL), (1, .int p1), (3, .int ka), (4, .int kb)]) hx hb d_Planner_find_124 hl (k := 7) rfl rfl (by decide) rfl (fun ls hl => ?_)
                          refine lv_goto (tgt := 29) hx hb d_Planner_find_127 (by decide) ?_
                          exact ih29 (r78 + (r54 * (lc 3))) (kc + 1) foc_121 ltc_121 _ _ _ (pl_lt hkc w33 c36 hm29) (in_pl hkc w33 c36) (by rw [hF29]; simp only [f_Planner_find_L29, w33, if_neg c36, w50, w54, if_neg c62, w78, if_neg c96, if_pos c101, w121]) hP hD hS (lv_sub hl [4, 5, 1, 6, 7, 0] rfl)
                        · refine lv_iload hx hb d_Planner_find_104 (lv_at hl 0 rfl) ?_
                          refine lv_iload_n hx hb d_Planner_find_106 rfl (lv_at hl 4 rfl) ?_
                          refine lv_icmp_ge (tgt := 124) hx hb d_Planner_find_107 (by decide) (fun (c107 : lsc ≤ (r78 + (r54 * (lc 3)))) => ?_) (fun (c107 : ¬ (lsc ≤ (r78 + (r54 * (lc 3))))) => ?_)
                          · refine lv_iinc (v := kc + 1) (lv' := [(5, .int (kc + 1)), (7, .int (r78 + (r54 * (lc 3)))), (6, .int r54), (0, .ref aL), (1, .int p1), (2, .int lsc), (3, .int ka), (4, .int kb)]) hx hb d_Planner_find_124 hl (k := 7) rfl rfl (by decide) rfl (fun ls hl => ?_)
                            refine lv_goto (tgt := 29) hx hb d_Planner_find_127 (by decide) ?_
                            exact ih29 lsc (kc + 1) foc ltc _ _ _ (pl_lt hkc w33 c36 hm29) (in_pl hkc w33 c36) (by rw [hF29]; simp only [f_Planner_find_L29, w33, if_neg c36, w50, w54, if_neg c62, w78, if_neg c96, if_neg c101, if_pos c107]) hP hD hS (lv_sub hl [3, 4, 5, 6, 7, 0] rfl)
                          · refine lv_iload hx hb d_Planner_find_110 (lv_at hl 0 rfl) ?_
                            refine lv_istore_n (lv' := [(2, .int (r78 + (r54 * (lc 3)))), (7, .int (r78 + (r54 * (lc 3)))), (6, .int r54), (0, .ref aL), (1, .int p1), (3, .int ka), (4, .int kb), (5, .int kc)]) hx hb d_Planner_find_112 rfl hl (by decide) rfl (fun ls hl => ?_)
                            refine lv_aload_n hx hb d_Planner_find_113 rfl (lv_at hl 3 rfl) ?_
                            refine lv_iload_n hx hb d_Planner_find_114 rfl (lv_at hl 5 rfl) ?_
                            refine lv_iload hx hb d_Planner_find_115 (lv_at hl 6 rfl) ?_
                            refine lv_iload hx hb d_Planner_find_117 (lv_at hl 7 rfl) ?_
                            refine lv_iload hx hb d_Planner_find_119 (lv_at hl 2 rfl) ?_
                            have hPc := hP.sub (ws' := [(aL, .inr (6, [.ref bL1, .ref bL2, .ref bL3, .ref bL4, .int foc])), (bL4, .inl (cI, 4, .inl ltc))]) [0, 4] rfl
                            have hDc := hD.sub (ws' := [(aL, .inr (6, [.ref bL1, .ref bL2, .ref bL3, .ref bL4, .int foc])), (bL4, .inl (cI, 4, .inl ltc))]) [0, 4] (by decide) rfl
                            refine k_callv hP hD hS hA [0, 4] [1, 2, 3] (wc := [(aL, .inr (6, [.ref bL1, .ref bL2, .ref bL3, .ref bL4, .int foc])), (bL4, .inl (cI, 4, .inl ltc))]) (wr := [(bL1, .inl (cI, 4, .inl lg)), (bL2, .inl (cI, 4, .inl lc)), (bL3, .inl (cI, 4, .inl lx))]) rfl rfl (by decide) (by decide) (va_runV (As := [.int ka, .int kb, .int kc, .int r54]) (rest := []) ⟨hx, hb, hml, hown, hwg⟩ (c_Planner_keep l dC dI cI cL cZ aL bL1 bL2 bL3 bL4 H78.size foc ltc ka kb kc r54) (cwV 4 hwg (g_V kw_300 kw_301 kw_9 kw_20 kw_302) rfl rfl rfl (by decide +kernel) ⟨Nat.le_of_ble_eq_true rfl, Nat.le_of_ble_eq_true rfl⟩) ⟨c_pre_call, va_recv hK hPc (ci := 6) (q0 := 0) rfl rfl, c_pre_mk hPc hDc hK hN _⟩ rfl rfl hl.1 rfl (lv_room (Nat.le_of_ble_eq_true rfl)) d_Planner_find_121 ⟨Nat.le_of_ble_eq_true rfl, Nat.le_of_ble_eq_true rfl⟩) (fun u H121 locs w121 hz1 hP hD hS => ?_)
                            obtain ⟨foc_121, ltc_121⟩ := u
                            have hP := hP.sub (ws' := [(aL, .inr (6, [.ref bL1, .ref bL2, .ref bL3, .ref bL4, .int foc_121])), (bL1, .inl (cI, 4, .inl lg)), (bL2, .inl (cI, 4, .inl lc)), (bL3, .inl (cI, 4, .inl lx)), (bL4, .inl (cI, 4, .inl ltc_121))]) [3, 0, 1, 2, 4] rfl
                            have hD := hD.sub (ws' := [(aL, .inr (6, [.ref bL1, .ref bL2, .ref bL3, .ref bL4, .int foc_121])), (bL1, .inl (cI, 4, .inl lg)), (bL2, .inl (cI, 4, .inl lc)), (bL3, .inl (cI, 4, .inl lx)), (bL4, .inl (cI, 4, .inl ltc_121))]) [3, 0, 1, 2, 4] (by decide) rfl
                            refine lv_iinc (v := kc + 1) (lv' := [(5, .int (kc + 1)), (2, .int (r78 + (r54 * (lc 3)))), (7, .int (r78 + (r54 * (lc 3)))), (6, .int r54), (0, .ref aL), (1, .int p1), (3, .int ka), (4, .int kb)]) hx hb d_Planner_find_124 hl (k := 7) rfl rfl (by decide) rfl (fun ls hl => ?_)
                            refine lv_goto (tgt := 29) hx hb d_Planner_find_127 (by decide) ?_
                            exact ih29 (r78 + (r54 * (lc 3))) (kc + 1) foc_121 ltc_121 _ _ _ (pl_lt hkc w33 c36 hm29) (in_pl hkc w33 c36) (by rw [hF29]; simp only [f_Planner_find_L29, w33, if_neg c36, w50, w54, if_neg c62, w78, if_neg c96, if_neg c101, if_neg c107, w121]) hP hD hS (lv_sub hl [4, 5, 1, 6, 7, 0] rfl)
                    · refine lv_iconst (v := (-1)) hx hb d_Planner_find_65 (by decide) ?_
                      refine lv_goto (tgt := 91) hx hb d_Planner_find_66 (by decide) ?_
                      refine lv_istore (lv' := [(7, .int (-1)), (6, .int r54), (0, .ref aL), (1, .int p1), (2, .int lsc), (3, .int ka), (4, .int kb), (5, .int kc)]) hx hb d_Planner_find_91 hl (by decide) rfl (fun ls hl => ?_)
                      refine lv_iload hx hb d_Planner_find_93 (lv_at hl 0 rfl) ?_
                      refine lv_iconst (v := (-1)) hx hb d_Planner_find_95 (by decide) ?_
                      refine lv_icmp_eq (tgt := 124) hx hb d_Planner_find_96 (by decide) (fun c96 => ?_) (fun c96 => ?_)
                      rotate_left
                      · exact absurd c96 (by decide)
                      refine lv_iinc (v := kc + 1) (lv' := [(5, .int (kc + 1)), (7, .int (-1)), (6, .int r54), (0, .ref aL), (1, .int p1), (2, .int lsc), (3, .int ka), (4, .int kb)]) hx hb d_Planner_find_124 hl (k := 7) rfl rfl (by decide) rfl (fun ls hl => ?_)
                      refine lv_goto (tgt := 29) hx hb d_Planner_find_127 (by decide) ?_
                      exact ih29 lsc (kc + 1) foc ltc _ _ _ (pl_lt hkc w33 c36 hm29) (in_pl hkc w33 c36) (by rw [hF29]; simp only [f_Planner_find_L29, w33, if_neg c36, w50, w54, if_pos c62]) hP hD hS (lv_sub hl [3, 4, 5, 6, 7, 0] rfl)
              exact loop29 11 lsb 0 fob ltb _ _ _ (by decide) (by unfold vp_in; decide) (by rw [hF16]; simp only [f_Planner_find_L16, w20, if_neg c23]) hP hD hS (lv_sub hl [1, 2, 3, 4, 5, 0] rfl)
        exact loop16 11 lsa 0 foa lta _ _ _ (by decide) (by unfold vp_in; decide) (by rw [hF4]; simp only [f_Planner_find_L4, w7, if_neg c10]) hP hD hS (lv_sub hl [1, 2, 3, 4, 0] rfl)
  exact loop4 11 (-1) 0 fo lt _ _ _ (by decide) (by unfold vp_in; decide) rfl hP hD hS (lv_sub hl [2, 3, 1, 0] rfl)
