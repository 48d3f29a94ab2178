theorem t_1000 : (1000 : Int32).toInt = 1000 := by decide
theorem t_10000 : (10000 : Int32).toInt = 10000 := by decide
theorem in_w1000 {p r : Int32} (w : f_DR_within p 1 1000 = r) (c : ¬ r = 0) : vp_in p 1001 := by
  have h := within_t w c
  rw [t_1, t_1000] at h; rw [vp_in_iff]; omega
theorem in_run {nm pn p r : Int32} (hn : vp_in nm 10001) (hp : pn = nm) (w : f_DR_within p 1 1000 = r) (c : ¬ r = 0) (c2 : nm + p ≤ 10000) : vp_in (pn + p) 10001 := by
  have h := within_t w c
  rw [t_1, t_1000] at h
  subst hp
  rw [vp_in_iff] at hn ⊢
  have e : (pn + p).toInt = pn.toInt + p.toInt := by rw [i_add] <;> omega
  rw [Int32.le_iff_toInt_le, e, t_10000] at c2
  rw [e]; omega
theorem run_lt {iv p : Int32} {n : Nat} (hi : vp_in iv 1001) (hp : vp_in p 1001) (c : ¬ p ≤ iv) (hm : 1000 - iv.toNatClampNeg < n + 1) : 1000 - (iv + 1).toNatClampNeg < n := by
  rw [Int32.le_iff_toInt_le] at c; rw [vp_in_iff] at hi hp; rw [cl_i] at hm ⊢
  rw [i_add] <;> rw [t_1] <;> omega
theorem in_runn {iv p : Int32} (hi : vp_in iv 1001) (hp : vp_in p 1001) (c : ¬ p ≤ iv) : vp_in (iv + 1) 1001 := by
  rw [Int32.le_iff_toInt_le] at c; rw [vp_in_iff] at hi hp ⊢
  rw [i_add] <;> rw [t_1] <;> omega
theorem in_nn {p : Int32} {n : Nat} (h : vp_in p n) : ¬ p < 0 := fun q => h (Or.inl q)
theorem nI_i {n : Nat} (h : n ≤ 10000) : (nI n).toInt = (n : Int) := nI_toInt (by omega)
theorem min_i (a b : Int32) : (if a < b then a else b).toInt = min a.toInt b.toInt := by
  split
  · rename_i h; rw [Int32.lt_iff_toInt_lt] at h; omega
  · rename_i h; rw [Int32.lt_iff_toInt_lt] at h; omega
theorem max_i (a b : Int32) : (if a < b then b else a).toInt = max a.toInt b.toInt := by
  split
  · rename_i h; rw [Int32.lt_iff_toInt_lt] at h; omega
  · rename_i h; rw [Int32.lt_iff_toInt_lt] at h; omega
theorem d_DR_kind_0 : decode b_DR_kind 0 = .ok (.iload_n 1, 1) := by decide +kernel
theorem d_DR_kind_1 : decode b_DR_kind 1 = .ok (.invokestatic 55, 3) := by decide +kernel
theorem d_DR_kind_4 : decode b_DR_kind 4 = .ok (.ifCond .eq 23, 3) := by decide +kernel
theorem d_DR_kind_7 : decode b_DR_kind 7 = .ok (.iload_n 2, 1) := by decide +kernel
theorem d_DR_kind_8 : decode b_DR_kind 8 = .ok (.iconst 0, 1) := by decide +kernel
theorem d_DR_kind_9 : decode b_DR_kind 9 = .ok (.iconst 2, 1) := by decide +kernel
theorem d_DR_kind_10 : decode b_DR_kind 10 = .ok (.invokestatic 59, 3) := by decide +kernel
theorem d_DR_kind_13 : decode b_DR_kind 13 = .ok (.ifCond .eq 14, 3) := by decide +kernel
theorem d_DR_kind_16 : decode b_DR_kind 16 = .ok (.iload_n 3, 1) := by decide +kernel
theorem d_DR_kind_17 : decode b_DR_kind 17 = .ok (.iconst 0, 1) := by decide +kernel
theorem d_DR_kind_18 : decode b_DR_kind 18 = .ok (.sipush 1000, 3) := by decide +kernel
theorem d_DR_kind_21 : decode b_DR_kind 21 = .ok (.invokestatic 59, 3) := by decide +kernel
theorem d_DR_kind_24 : decode b_DR_kind 24 = .ok (.ifCond .ne 5, 3) := by decide +kernel
theorem d_DR_kind_27 : decode b_DR_kind 27 = .ok (.iconst 0, 1) := by decide +kernel
theorem d_DR_kind_28 : decode b_DR_kind 28 = .ok (.ireturn, 1) := by decide +kernel
theorem d_DR_kind_29 : decode b_DR_kind 29 = .ok (.aload_n 0, 1) := by decide +kernel
theorem d_DR_kind_30 : decode b_DR_kind 30 = .ok (.getfield 10, 3) := by decide +kernel
theorem d_DR_kind_33 : decode b_DR_kind 33 = .ok (.iload_n 1, 1) := by decide +kernel
theorem d_DR_kind_34 : decode b_DR_kind 34 = .ok (.iload_n 2, 1) := by decide +kernel
theorem d_DR_kind_35 : decode b_DR_kind 35 = .ok (.iload_n 3, 1) := by decide +kernel
theorem d_DR_kind_36 : decode b_DR_kind 36 = .ok (.invokevirtual 63, 3) := by decide +kernel
theorem d_DR_kind_39 : decode b_DR_kind 39 = .ok (.ireturn, 1) := by decide +kernel
theorem d_DR_start_0 : decode b_DR_start 0 = .ok (.iload_n 1, 1) := by decide +kernel
theorem d_DR_start_1 : decode b_DR_start 1 = .ok (.invokestatic 66, 3) := by decide +kernel
theorem d_DR_start_4 : decode b_DR_start 4 = .ok (.ifCond .eq 13, 3) := by decide +kernel
theorem d_DR_start_7 : decode b_DR_start 7 = .ok (.iload_n 2, 1) := by decide +kernel
theorem d_DR_start_8 : decode b_DR_start 8 = .ok (.iconst 0, 1) := by decide +kernel
theorem d_DR_start_9 : decode b_DR_start 9 = .ok (.ldc 69, 2) := by decide +kernel
theorem d_DR_start_11 : decode b_DR_start 11 = .ok (.invokestatic 59, 3) := by decide +kernel
theorem d_DR_start_14 : decode b_DR_start 14 = .ok (.ifCond .ne 5, 3) := by decide +kernel
theorem d_DR_start_17 : decode b_DR_start 17 = .ok (.iconst 0, 1) := by decide +kernel
theorem d_DR_start_18 : decode b_DR_start 18 = .ok (.ireturn, 1) := by decide +kernel
theorem d_DR_start_19 : decode b_DR_start 19 = .ok (.aload_n 0, 1) := by decide +kernel
theorem d_DR_start_20 : decode b_DR_start 20 = .ok (.getfield 26, 3) := by decide +kernel
theorem d_DR_start_23 : decode b_DR_start 23 = .ok (.getfield 70, 3) := by decide +kernel
theorem d_DR_start_26 : decode b_DR_start 26 = .ok (.iload_n 1, 1) := by decide +kernel
theorem d_DR_start_27 : decode b_DR_start 27 = .ok (.laload, 1) := by decide +kernel
theorem d_DR_start_28 : decode b_DR_start 28 = .ok (.iload_n 2, 1) := by decide +kernel
theorem d_DR_start_29 : decode b_DR_start 29 = .ok (.i2l, 1) := by decide +kernel
theorem d_DR_start_30 : decode b_DR_start 30 = .ok (.ladd, 1) := by decide +kernel
theorem d_DR_start_31 : decode b_DR_start 31 = .ok (.ldc2_w 74, 3) := by decide +kernel
theorem d_DR_start_34 : decode b_DR_start 34 = .ok (.lcmp, 1) := by decide +kernel
theorem d_DR_start_35 : decode b_DR_start 35 = .ok (.ifCond .le 5, 3) := by decide +kernel
theorem d_DR_start_38 : decode b_DR_start 38 = .ok (.iconst 0, 1) := by decide +kernel
theorem d_DR_start_39 : decode b_DR_start 39 = .ok (.ireturn, 1) := by decide +kernel
theorem d_DR_start_40 : decode b_DR_start 40 = .ok (.aload_n 0, 1) := by decide +kernel
theorem d_DR_start_41 : decode b_DR_start 41 = .ok (.getfield 26, 3) := by decide +kernel
theorem d_DR_start_44 : decode b_DR_start 44 = .ok (.iload_n 1, 1) := by decide +kernel
theorem d_DR_start_45 : decode b_DR_start 45 = .ok (.iload_n 2, 1) := by decide +kernel
theorem d_DR_start_46 : decode b_DR_start 46 = .ok (.i2l, 1) := by decide +kernel
theorem d_DR_start_47 : decode b_DR_start 47 = .ok (.invokevirtual 76, 3) := by decide +kernel
theorem d_DR_start_50 : decode b_DR_start 50 = .ok (.iconst 1, 1) := by decide +kernel
theorem d_DR_start_51 : decode b_DR_start 51 = .ok (.ireturn, 1) := by decide +kernel
theorem d_DR_feed_0 : decode b_DR_feed 0 = .ok (.iload_n 1, 1) := by decide +kernel
theorem d_DR_feed_1 : decode b_DR_feed 1 = .ok (.aload_n 0, 1) := by decide +kernel
theorem d_DR_feed_2 : decode b_DR_feed 2 = .ok (.getfield 51, 3) := by decide +kernel
theorem d_DR_feed_5 : decode b_DR_feed 5 = .ok (.sipush 9999, 3) := by decide +kernel
theorem d_DR_feed_8 : decode b_DR_feed 8 = .ok (.invokestatic 59, 3) := by decide +kernel
theorem d_DR_feed_11 : decode b_DR_feed 11 = .ok (.ifCond .eq 20, 3) := by decide +kernel
theorem d_DR_feed_14 : decode b_DR_feed 14 = .ok (.iload_n 2, 1) := by decide +kernel
theorem d_DR_feed_15 : decode b_DR_feed 15 = .ok (.invokestatic 55, 3) := by decide +kernel
theorem d_DR_feed_18 : decode b_DR_feed 18 = .ok (.ifCond .eq 13, 3) := by decide +kernel
theorem d_DR_feed_21 : decode b_DR_feed 21 = .ok (.iload_n 3, 1) := by decide +kernel
theorem d_DR_feed_22 : decode b_DR_feed 22 = .ok (.iconst 1, 1) := by decide +kernel
theorem d_DR_feed_23 : decode b_DR_feed 23 = .ok (.ldc 80, 2) := by decide +kernel
theorem d_DR_feed_25 : decode b_DR_feed 25 = .ok (.invokestatic 59, 3) := by decide +kernel
theorem d_DR_feed_28 : decode b_DR_feed 28 = .ok (.ifCond .ne 5, 3) := by decide +kernel
theorem d_DR_feed_31 : decode b_DR_feed 31 = .ok (.iconst 0, 1) := by decide +kernel
theorem d_DR_feed_32 : decode b_DR_feed 32 = .ok (.ireturn, 1) := by decide +kernel
theorem d_DR_feed_33 : decode b_DR_feed 33 = .ok (.aload_n 0, 1) := by decide +kernel
theorem d_DR_feed_34 : decode b_DR_feed 34 = .ok (.getfield 19, 3) := by decide +kernel
theorem d_DR_feed_37 : decode b_DR_feed 37 = .ok (.iconst 1, 1) := by decide +kernel
theorem d_DR_feed_38 : decode b_DR_feed 38 = .ok (.invokevirtual 81, 3) := by decide +kernel
theorem d_DR_feed_41 : decode b_DR_feed 41 = .ok (.ifCond .ne 5, 3) := by decide +kernel
theorem d_DR_feed_44 : decode b_DR_feed 44 = .ok (.iconst 0, 1) := by decide +kernel
theorem d_DR_feed_45 : decode b_DR_feed 45 = .ok (.ireturn, 1) := by decide +kernel
theorem d_DR_feed_46 : decode b_DR_feed 46 = .ok (.aload_n 0, 1) := by decide +kernel
theorem d_DR_feed_47 : decode b_DR_feed 47 = .ok (.getfield 19, 3) := by decide +kernel
theorem d_DR_feed_50 : decode b_DR_feed 50 = .ok (.iload_n 1, 1) := by decide +kernel
theorem d_DR_feed_51 : decode b_DR_feed 51 = .ok (.iload_n 2, 1) := by decide +kernel
theorem d_DR_feed_52 : decode b_DR_feed 52 = .ok (.iload_n 3, 1) := by decide +kernel
theorem d_DR_feed_53 : decode b_DR_feed 53 = .ok (.invokevirtual 84, 3) := by decide +kernel
theorem d_DR_feed_56 : decode b_DR_feed 56 = .ok (.iconst 1, 1) := by decide +kernel
theorem d_DR_feed_57 : decode b_DR_feed 57 = .ok (.ireturn, 1) := by decide +kernel
theorem d_DR_rate_0 : decode b_DR_rate 0 = .ok (.iload_n 1, 1) := by decide +kernel
theorem d_DR_rate_1 : decode b_DR_rate 1 = .ok (.iconst 0, 1) := by decide +kernel
theorem d_DR_rate_2 : decode b_DR_rate 2 = .ok (.iconst 2, 1) := by decide +kernel
theorem d_DR_rate_3 : decode b_DR_rate 3 = .ok (.invokestatic 59, 3) := by decide +kernel
theorem d_DR_rate_6 : decode b_DR_rate 6 = .ok (.ifCond .eq 13, 3) := by decide +kernel
theorem d_DR_rate_9 : decode b_DR_rate 9 = .ok (.iload_n 2, 1) := by decide +kernel
theorem d_DR_rate_10 : decode b_DR_rate 10 = .ok (.iconst 0, 1) := by decide +kernel
theorem d_DR_rate_11 : decode b_DR_rate 11 = .ok (.ldc 69, 2) := by decide +kernel
theorem d_DR_rate_13 : decode b_DR_rate 13 = .ok (.invokestatic 59, 3) := by decide +kernel
theorem d_DR_rate_16 : decode b_DR_rate 16 = .ok (.ifCond .ne 5, 3) := by decide +kernel
theorem d_DR_rate_19 : decode b_DR_rate 19 = .ok (.iconst 0, 1) := by decide +kernel
theorem d_DR_rate_20 : decode b_DR_rate 20 = .ok (.ireturn, 1) := by decide +kernel
theorem d_DR_rate_21 : decode b_DR_rate 21 = .ok (.aload_n 0, 1) := by decide +kernel
theorem d_DR_rate_22 : decode b_DR_rate 22 = .ok (.getfield 26, 3) := by decide +kernel
theorem d_DR_rate_25 : decode b_DR_rate 25 = .ok (.getfield 88, 3) := by decide +kernel
theorem d_DR_rate_28 : decode b_DR_rate 28 = .ok (.iload_n 1, 1) := by decide +kernel
theorem d_DR_rate_29 : decode b_DR_rate 29 = .ok (.iload_n 2, 1) := by decide +kernel
theorem d_DR_rate_30 : decode b_DR_rate 30 = .ok (.iastore, 1) := by decide +kernel
theorem d_DR_rate_31 : decode b_DR_rate 31 = .ok (.iconst 1, 1) := by decide +kernel
theorem d_DR_rate_32 : decode b_DR_rate 32 = .ok (.ireturn, 1) := by decide +kernel
theorem d_DR_bound_0 : decode b_DR_bound 0 = .ok (.iload_n 1, 1) := by decide +kernel
theorem d_DR_bound_1 : decode b_DR_bound 1 = .ok (.iconst 1, 1) := by decide +kernel
theorem d_DR_bound_2 : decode b_DR_bound 2 = .ok (.ldc 92, 2) := by decide +kernel
theorem d_DR_bound_4 : decode b_DR_bound 4 = .ok (.invokestatic 59, 3) := by decide +kernel
theorem d_DR_bound_7 : decode b_DR_bound 7 = .ok (.ifCond .ne 5, 3) := by decide +kernel
theorem d_DR_bound_10 : decode b_DR_bound 10 = .ok (.iconst 0, 1) := by decide +kernel
theorem d_DR_bound_11 : decode b_DR_bound 11 = .ok (.ireturn, 1) := by decide +kernel
theorem d_DR_bound_12 : decode b_DR_bound 12 = .ok (.aload_n 0, 1) := by decide +kernel
theorem d_DR_bound_13 : decode b_DR_bound 13 = .ok (.getfield 26, 3) := by decide +kernel
theorem d_DR_bound_16 : decode b_DR_bound 16 = .ok (.iload_n 1, 1) := by decide +kernel
theorem d_DR_bound_17 : decode b_DR_bound 17 = .ok (.putfield 93, 3) := by decide +kernel
theorem d_DR_bound_20 : decode b_DR_bound 20 = .ok (.iconst 1, 1) := by decide +kernel
theorem d_DR_bound_21 : decode b_DR_bound 21 = .ok (.ireturn, 1) := by decide +kernel
theorem d_DR_room_0 : decode b_DR_room 0 = .ok (.iload_n 1, 1) := by decide +kernel
theorem d_DR_room_1 : decode b_DR_room 1 = .ok (.iconst 0, 1) := by decide +kernel
theorem d_DR_room_2 : decode b_DR_room 2 = .ok (.ldc 92, 2) := by decide +kernel
theorem d_DR_room_4 : decode b_DR_room 4 = .ok (.invokestatic 59, 3) := by decide +kernel
theorem d_DR_room_7 : decode b_DR_room 7 = .ok (.ifCond .ne 5, 3) := by decide +kernel
theorem d_DR_room_10 : decode b_DR_room 10 = .ok (.iconst 0, 1) := by decide +kernel
theorem d_DR_room_11 : decode b_DR_room 11 = .ok (.ireturn, 1) := by decide +kernel
theorem d_DR_room_12 : decode b_DR_room 12 = .ok (.aload_n 0, 1) := by decide +kernel
theorem d_DR_room_13 : decode b_DR_room 13 = .ok (.getfield 33, 3) := by decide +kernel
theorem d_DR_room_16 : decode b_DR_room 16 = .ok (.iload_n 1, 1) := by decide +kernel
theorem d_DR_room_17 : decode b_DR_room 17 = .ok (.putfield 96, 3) := by decide +kernel
theorem d_DR_room_20 : decode b_DR_room 20 = .ok (.iconst 1, 1) := by decide +kernel
theorem d_DR_room_21 : decode b_DR_room 21 = .ok (.ireturn, 1) := by decide +kernel
theorem d_DR_rank_0 : decode b_DR_rank 0 = .ok (.iload_n 1, 1) := by decide +kernel
theorem d_DR_rank_1 : decode b_DR_rank 1 = .ok (.iconst 0, 1) := by decide +kernel
theorem d_DR_rank_2 : decode b_DR_rank 2 = .ok (.bipush 9, 2) := by decide +kernel
theorem d_DR_rank_4 : decode b_DR_rank 4 = .ok (.invokestatic 59, 3) := by decide +kernel
theorem d_DR_rank_7 : decode b_DR_rank 7 = .ok (.ifCond .eq 13, 3) := by decide +kernel
theorem d_DR_rank_10 : decode b_DR_rank 10 = .ok (.iload_n 2, 1) := by decide +kernel
theorem d_DR_rank_11 : decode b_DR_rank 11 = .ok (.iconst 0, 1) := by decide +kernel
theorem d_DR_rank_12 : decode b_DR_rank 12 = .ok (.ldc 69, 2) := by decide +kernel
theorem d_DR_rank_14 : decode b_DR_rank 14 = .ok (.invokestatic 59, 3) := by decide +kernel
theorem d_DR_rank_17 : decode b_DR_rank 17 = .ok (.ifCond .ne 5, 3) := by decide +kernel
theorem d_DR_rank_20 : decode b_DR_rank 20 = .ok (.iconst (-1), 1) := by decide +kernel
theorem d_DR_rank_21 : decode b_DR_rank 21 = .ok (.ireturn, 1) := by decide +kernel
theorem d_DR_rank_22 : decode b_DR_rank 22 = .ok (.aload_n 0, 1) := by decide +kernel
theorem d_DR_rank_23 : decode b_DR_rank 23 = .ok (.getfield 33, 3) := by decide +kernel
theorem d_DR_rank_26 : decode b_DR_rank 26 = .ok (.iload_n 1, 1) := by decide +kernel
theorem d_DR_rank_27 : decode b_DR_rank 27 = .ok (.iload_n 2, 1) := by decide +kernel
theorem d_DR_rank_28 : decode b_DR_rank 28 = .ok (.invokevirtual 99, 3) := by decide +kernel
theorem d_DR_rank_31 : decode b_DR_rank 31 = .ok (.ireturn, 1) := by decide +kernel
theorem d_DR_at_0 : decode b_DR_at 0 = .ok (.iload_n 1, 1) := by decide +kernel
theorem d_DR_at_1 : decode b_DR_at 1 = .ok (.invokestatic 66, 3) := by decide +kernel
theorem d_DR_at_4 : decode b_DR_at 4 = .ok (.ifCond .eq 15, 3) := by decide +kernel
theorem d_DR_at_7 : decode b_DR_at 7 = .ok (.aload_n 0, 1) := by decide +kernel
theorem d_DR_at_8 : decode b_DR_at 8 = .ok (.getfield 26, 3) := by decide +kernel
theorem d_DR_at_11 : decode b_DR_at 11 = .ok (.getfield 70, 3) := by decide +kernel
theorem d_DR_at_14 : decode b_DR_at 14 = .ok (.iload_n 1, 1) := by decide +kernel
theorem d_DR_at_15 : decode b_DR_at 15 = .ok (.laload, 1) := by decide +kernel
theorem d_DR_at_16 : decode b_DR_at 16 = .ok (.goto 6, 3) := by decide +kernel
theorem d_DR_at_19 : decode b_DR_at 19 = .ok (.ldc2_w 110, 3) := by decide +kernel
theorem d_DR_at_22 : decode b_DR_at 22 = .ok (.lreturn, 1) := by decide +kernel
theorem d_DR_given_0 : decode b_DR_given 0 = .ok (.iload_n 1, 1) := by decide +kernel
theorem d_DR_given_1 : decode b_DR_given 1 = .ok (.iconst 0, 1) := by decide +kernel
theorem d_DR_given_2 : decode b_DR_given 2 = .ok (.aload_n 0, 1) := by decide +kernel
theorem d_DR_given_3 : decode b_DR_given 3 = .ok (.getfield 33, 3) := by decide +kernel
theorem d_DR_given_6 : decode b_DR_given 6 = .ok (.getfield 112, 3) := by decide +kernel
theorem d_DR_given_9 : decode b_DR_given 9 = .ok (.iconst 1, 1) := by decide +kernel
theorem d_DR_given_10 : decode b_DR_given 10 = .ok (.isub, 1) := by decide +kernel
theorem d_DR_given_11 : decode b_DR_given 11 = .ok (.invokestatic 59, 3) := by decide +kernel
theorem d_DR_given_14 : decode b_DR_given 14 = .ok (.ifCond .eq 15, 3) := by decide +kernel
theorem d_DR_given_17 : decode b_DR_given 17 = .ok (.aload_n 0, 1) := by decide +kernel
theorem d_DR_given_18 : decode b_DR_given 18 = .ok (.getfield 33, 3) := by decide +kernel
theorem d_DR_given_21 : decode b_DR_given 21 = .ok (.getfield 115, 3) := by decide +kernel
theorem d_DR_given_24 : decode b_DR_given 24 = .ok (.iload_n 1, 1) := by decide +kernel
theorem d_DR_given_25 : decode b_DR_given 25 = .ok (.laload, 1) := by decide +kernel
theorem d_DR_given_26 : decode b_DR_given 26 = .ok (.goto 6, 3) := by decide +kernel
theorem d_DR_given_29 : decode b_DR_given 29 = .ok (.ldc2_w 110, 3) := by decide +kernel
theorem d_DR_given_32 : decode b_DR_given 32 = .ok (.lreturn, 1) := by decide +kernel
theorem d_DR_gone_0 : decode b_DR_gone 0 = .ok (.iload_n 1, 1) := by decide +kernel
theorem d_DR_gone_1 : decode b_DR_gone 1 = .ok (.tableswitch 75 0 4 #[35, 43, 51, 59, 67], 35) := by decide +kernel
theorem d_DR_gone_36 : decode b_DR_gone 36 = .ok (.aload_n 0, 1) := by decide +kernel
theorem d_DR_gone_37 : decode b_DR_gone 37 = .ok (.getfield 26, 3) := by decide +kernel
theorem d_DR_gone_40 : decode b_DR_gone 40 = .ok (.getfield 118, 3) := by decide +kernel
theorem d_DR_gone_43 : decode b_DR_gone 43 = .ok (.lreturn, 1) := by decide +kernel
theorem d_DR_gone_44 : decode b_DR_gone 44 = .ok (.aload_n 0, 1) := by decide +kernel
theorem d_DR_gone_45 : decode b_DR_gone 45 = .ok (.getfield 26, 3) := by decide +kernel
theorem d_DR_gone_48 : decode b_DR_gone 48 = .ok (.getfield 122, 3) := by decide +kernel
theorem d_DR_gone_51 : decode b_DR_gone 51 = .ok (.lreturn, 1) := by decide +kernel
theorem d_DR_gone_52 : decode b_DR_gone 52 = .ok (.aload_n 0, 1) := by decide +kernel
theorem d_DR_gone_53 : decode b_DR_gone 53 = .ok (.getfield 33, 3) := by decide +kernel
theorem d_DR_gone_56 : decode b_DR_gone 56 = .ok (.getfield 125, 3) := by decide +kernel
theorem d_DR_gone_59 : decode b_DR_gone 59 = .ok (.lreturn, 1) := by decide +kernel
theorem d_DR_gone_60 : decode b_DR_gone 60 = .ok (.aload_n 0, 1) := by decide +kernel
theorem d_DR_gone_61 : decode b_DR_gone 61 = .ok (.getfield 33, 3) := by decide +kernel
theorem d_DR_gone_64 : decode b_DR_gone 64 = .ok (.getfield 128, 3) := by decide +kernel
theorem d_DR_gone_67 : decode b_DR_gone 67 = .ok (.lreturn, 1) := by decide +kernel
theorem d_DR_gone_68 : decode b_DR_gone 68 = .ok (.aload_n 0, 1) := by decide +kernel
theorem d_DR_gone_69 : decode b_DR_gone 69 = .ok (.getfield 33, 3) := by decide +kernel
theorem d_DR_gone_72 : decode b_DR_gone 72 = .ok (.getfield 131, 3) := by decide +kernel
theorem d_DR_gone_75 : decode b_DR_gone 75 = .ok (.lreturn, 1) := by decide +kernel
theorem d_DR_gone_76 : decode b_DR_gone 76 = .ok (.ldc2_w 110, 3) := by decide +kernel
theorem d_DR_gone_79 : decode b_DR_gone 79 = .ok (.lreturn, 1) := by decide +kernel
theorem d_DR_balance_0 : decode b_DR_balance 0 = .ok (.iload_n 1, 1) := by decide +kernel
theorem d_DR_balance_1 : decode b_DR_balance 1 = .ok (.lookupswitch 83 #[(0, 27), (1, 51)], 27) := by decide +kernel
theorem d_DR_balance_28 : decode b_DR_balance 28 = .ok (.aload_n 0, 1) := by decide +kernel
theorem d_DR_balance_29 : decode b_DR_balance 29 = .ok (.getfield 26, 3) := by decide +kernel
theorem d_DR_balance_32 : decode b_DR_balance 32 = .ok (.getfield 118, 3) := by decide +kernel
theorem d_DR_balance_35 : decode b_DR_balance 35 = .ok (.aload_n 0, 1) := by decide +kernel
theorem d_DR_balance_36 : decode b_DR_balance 36 = .ok (.getfield 26, 3) := by decide +kernel
theorem d_DR_balance_39 : decode b_DR_balance 39 = .ok (.invokevirtual 134, 3) := by decide +kernel
theorem d_DR_balance_42 : decode b_DR_balance 42 = .ok (.lsub, 1) := by decide +kernel
theorem d_DR_balance_43 : decode b_DR_balance 43 = .ok (.aload_n 0, 1) := by decide +kernel
theorem d_DR_balance_44 : decode b_DR_balance 44 = .ok (.getfield 26, 3) := by decide +kernel
theorem d_DR_balance_47 : decode b_DR_balance 47 = .ok (.getfield 122, 3) := by decide +kernel
theorem d_DR_balance_50 : decode b_DR_balance 50 = .ok (.lsub, 1) := by decide +kernel
theorem d_DR_balance_51 : decode b_DR_balance 51 = .ok (.lreturn, 1) := by decide +kernel
theorem d_DR_balance_52 : decode b_DR_balance 52 = .ok (.aload_n 0, 1) := by decide +kernel
theorem d_DR_balance_53 : decode b_DR_balance 53 = .ok (.getfield 26, 3) := by decide +kernel
theorem d_DR_balance_56 : decode b_DR_balance 56 = .ok (.getfield 122, 3) := by decide +kernel
theorem d_DR_balance_59 : decode b_DR_balance 59 = .ok (.aload_n 0, 1) := by decide +kernel
theorem d_DR_balance_60 : decode b_DR_balance 60 = .ok (.getfield 33, 3) := by decide +kernel
theorem d_DR_balance_63 : decode b_DR_balance 63 = .ok (.getfield 131, 3) := by decide +kernel
theorem d_DR_balance_66 : decode b_DR_balance 66 = .ok (.lsub, 1) := by decide +kernel
theorem d_DR_balance_67 : decode b_DR_balance 67 = .ok (.aload_n 0, 1) := by decide +kernel
theorem d_DR_balance_68 : decode b_DR_balance 68 = .ok (.getfield 33, 3) := by decide +kernel
theorem d_DR_balance_71 : decode b_DR_balance 71 = .ok (.getfield 125, 3) := by decide +kernel
theorem d_DR_balance_74 : decode b_DR_balance 74 = .ok (.lsub, 1) := by decide +kernel
theorem d_DR_balance_75 : decode b_DR_balance 75 = .ok (.aload_n 0, 1) := by decide +kernel
theorem d_DR_balance_76 : decode b_DR_balance 76 = .ok (.getfield 33, 3) := by decide +kernel
theorem d_DR_balance_79 : decode b_DR_balance 79 = .ok (.getfield 128, 3) := by decide +kernel
theorem d_DR_balance_82 : decode b_DR_balance 82 = .ok (.lsub, 1) := by decide +kernel
theorem d_DR_balance_83 : decode b_DR_balance 83 = .ok (.lreturn, 1) := by decide +kernel
theorem d_DR_balance_84 : decode b_DR_balance 84 = .ok (.ldc2_w 110, 3) := by decide +kernel
theorem d_DR_balance_87 : decode b_DR_balance 87 = .ok (.lreturn, 1) := by decide +kernel
theorem d_DR_acid_0 : decode b_DR_acid 0 = .ok (.aload_n 0, 1) := by decide +kernel
theorem d_DR_acid_1 : decode b_DR_acid 1 = .ok (.getfield 26, 3) := by decide +kernel
theorem d_DR_acid_4 : decode b_DR_acid 4 = .ok (.invokevirtual 138, 3) := by decide +kernel
theorem d_DR_acid_7 : decode b_DR_acid 7 = .ok (.ireturn, 1) := by decide +kernel
theorem d_DR_sour_0 : decode b_DR_sour 0 = .ok (.lload_n 1, 1) := by decide +kernel
theorem d_DR_sour_1 : decode b_DR_sour 1 = .ok (.lconst 0, 1) := by decide +kernel
theorem d_DR_sour_2 : decode b_DR_sour 2 = .ok (.lcmp, 1) := by decide +kernel
theorem d_DR_sour_3 : decode b_DR_sour 3 = .ok (.ifCond .ge 7, 3) := by decide +kernel
theorem d_DR_sour_6 : decode b_DR_sour 6 = .ok (.iconst (-1), 1) := by decide +kernel
theorem d_DR_sour_7 : decode b_DR_sour 7 = .ok (.goto 11, 3) := by decide +kernel
theorem d_DR_sour_10 : decode b_DR_sour 10 = .ok (.aload_n 0, 1) := by decide +kernel
theorem d_DR_sour_11 : decode b_DR_sour 11 = .ok (.getfield 40, 3) := by decide +kernel
theorem d_DR_sour_14 : decode b_DR_sour 14 = .ok (.lload_n 1, 1) := by decide +kernel
theorem d_DR_sour_15 : decode b_DR_sour 15 = .ok (.invokevirtual 142, 3) := by decide +kernel
theorem d_DR_sour_18 : decode b_DR_sour 18 = .ok (.ireturn, 1) := by decide +kernel
theorem d_DR_load_0 : decode b_DR_load 0 = .ok (.iload_n 1, 1) := by decide +kernel
theorem d_DR_load_1 : decode b_DR_load 1 = .ok (.invokestatic 55, 3) := by decide +kernel
theorem d_DR_load_4 : decode b_DR_load 4 = .ok (.ifCond .eq 34, 3) := by decide +kernel
theorem d_DR_load_7 : decode b_DR_load 7 = .ok (.iload_n 2, 1) := by decide +kernel
theorem d_DR_load_8 : decode b_DR_load 8 = .ok (.iconst 1, 1) := by decide +kernel
theorem d_DR_load_9 : decode b_DR_load 9 = .ok (.ldc 80, 2) := by decide +kernel
theorem d_DR_load_11 : decode b_DR_load 11 = .ok (.invokestatic 59, 3) := by decide +kernel
theorem d_DR_load_14 : decode b_DR_load 14 = .ok (.ifCond .eq 24, 3) := by decide +kernel
theorem d_DR_load_17 : decode b_DR_load 17 = .ok (.iload_n 3, 1) := by decide +kernel
theorem d_DR_load_18 : decode b_DR_load 18 = .ok (.iconst 0, 1) := by decide +kernel
theorem d_DR_load_19 : decode b_DR_load 19 = .ok (.ldc 80, 2) := by decide +kernel
theorem d_DR_load_21 : decode b_DR_load 21 = .ok (.invokestatic 59, 3) := by decide +kernel
theorem d_DR_load_24 : decode b_DR_load 24 = .ok (.ifCond .eq 14, 3) := by decide +kernel
theorem d_DR_load_27 : decode b_DR_load 27 = .ok (.iload 4, 2) := by decide +kernel
theorem d_DR_load_29 : decode b_DR_load 29 = .ok (.iconst 0, 1) := by decide +kernel
theorem d_DR_load_30 : decode b_DR_load 30 = .ok (.ldc 80, 2) := by decide +kernel
theorem d_DR_load_32 : decode b_DR_load 32 = .ok (.invokestatic 59, 3) := by decide +kernel
theorem d_DR_load_35 : decode b_DR_load 35 = .ok (.ifCond .ne 5, 3) := by decide +kernel
theorem d_DR_load_38 : decode b_DR_load 38 = .ok (.iconst 0, 1) := by decide +kernel
theorem d_DR_load_39 : decode b_DR_load 39 = .ok (.ireturn, 1) := by decide +kernel
theorem d_DR_load_40 : decode b_DR_load 40 = .ok (.aload_n 0, 1) := by decide +kernel
theorem d_DR_load_41 : decode b_DR_load 41 = .ok (.getfield 47, 3) := by decide +kernel
theorem d_DR_load_44 : decode b_DR_load 44 = .ok (.iload_n 1, 1) := by decide +kernel
theorem d_DR_load_45 : decode b_DR_load 45 = .ok (.iload_n 2, 1) := by decide +kernel
theorem d_DR_load_46 : decode b_DR_load 46 = .ok (.iload_n 3, 1) := by decide +kernel
theorem d_DR_load_47 : decode b_DR_load 47 = .ok (.iload 4, 2) := by decide +kernel
theorem d_DR_load_49 : decode b_DR_load 49 = .ok (.invokevirtual 146, 3) := by decide +kernel
theorem d_DR_load_52 : decode b_DR_load 52 = .ok (.iconst 1, 1) := by decide +kernel
theorem d_DR_load_53 : decode b_DR_load 53 = .ok (.ireturn, 1) := by decide +kernel
theorem d_DR_plan_0 : decode b_DR_plan 0 = .ok (.iload_n 1, 1) := by decide +kernel
theorem d_DR_plan_1 : decode b_DR_plan 1 = .ok (.iconst 0, 1) := by decide +kernel
theorem d_DR_plan_2 : decode b_DR_plan 2 = .ok (.ldc 69, 2) := by decide +kernel
theorem d_DR_plan_4 : decode b_DR_plan 4 = .ok (.invokestatic 59, 3) := by decide +kernel
theorem d_DR_plan_7 : decode b_DR_plan 7 = .ok (.ifCond .eq 14, 3) := by decide +kernel
theorem d_DR_plan_10 : decode b_DR_plan 10 = .ok (.aload_n 0, 1) := by decide +kernel
theorem d_DR_plan_11 : decode b_DR_plan 11 = .ok (.getfield 47, 3) := by decide +kernel
theorem d_DR_plan_14 : decode b_DR_plan 14 = .ok (.iload_n 1, 1) := by decide +kernel
theorem d_DR_plan_15 : decode b_DR_plan 15 = .ok (.invokevirtual 150, 3) := by decide +kernel
theorem d_DR_plan_18 : decode b_DR_plan 18 = .ok (.goto 4, 3) := by decide +kernel
theorem d_DR_plan_21 : decode b_DR_plan 21 = .ok (.iconst (-1), 1) := by decide +kernel
theorem d_DR_plan_22 : decode b_DR_plan 22 = .ok (.ireturn, 1) := by decide +kernel
theorem d_DR_planned_0 : decode b_DR_planned 0 = .ok (.iload_n 1, 1) := by decide +kernel
theorem d_DR_planned_1 : decode b_DR_planned 1 = .ok (.invokestatic 55, 3) := by decide +kernel
theorem d_DR_planned_4 : decode b_DR_planned 4 = .ok (.ifCond .eq 25, 3) := by decide +kernel
theorem d_DR_planned_7 : decode b_DR_planned 7 = .ok (.aload_n 0, 1) := by decide +kernel
theorem d_DR_planned_8 : decode b_DR_planned 8 = .ok (.getfield 47, 3) := by decide +kernel
theorem d_DR_planned_11 : decode b_DR_planned 11 = .ok (.getfield 154, 3) := by decide +kernel
theorem d_DR_planned_14 : decode b_DR_planned 14 = .ok (.ifCond .eq 15, 3) := by decide +kernel
theorem d_DR_planned_17 : decode b_DR_planned 17 = .ok (.aload_n 0, 1) := by decide +kernel
theorem d_DR_planned_18 : decode b_DR_planned 18 = .ok (.getfield 47, 3) := by decide +kernel
theorem d_DR_planned_21 : decode b_DR_planned 21 = .ok (.getfield 158, 3) := by decide +kernel
theorem d_DR_planned_24 : decode b_DR_planned 24 = .ok (.iload_n 1, 1) := by decide +kernel
theorem d_DR_planned_25 : decode b_DR_planned 25 = .ok (.iaload, 1) := by decide +kernel
theorem d_DR_planned_26 : decode b_DR_planned 26 = .ok (.goto 4, 3) := by decide +kernel
theorem d_DR_planned_29 : decode b_DR_planned 29 = .ok (.iconst (-1), 1) := by decide +kernel
theorem d_DR_planned_30 : decode b_DR_planned 30 = .ok (.ireturn, 1) := by decide +kernel
def f_DR_kind (th : Nat → Int32) (p1 : Int32) (p2 : Int32) (p3 : Int32) : Int32 × (Nat → Int32) := let r1 := f_DR_isKind p1; if r1 = 0 then ((0, th)) else (let r10 := f_DR_within p2 0 2; if r10 = 0 then ((0, th)) else (let r21 := f_DR_within p3 0 1000; if r21 = 0 then ((0, th)) else (match f_Shares_change th p1 p2 p3 with | (r36, th_36) => (r36, th_36))))
abbrev rm_DR_kind : Room := { frames := 2, cells := 0, slots := 0, locals := 47 }
set_option maxHeartbeats 4000000 in
set_option maxRecDepth 100000 in
theorem c_DR_kind (l : Launch) (dC : Nat → ClassId) (dI : Nat → Nat → Nat) (cI cL cZ : ClassId) (x0 aS aT aK aG aP aL bS : Nat) (sz : Nat) (nm : Int32) (th : Nat → Int32) (p1 : Int32) (p2 : Int32) (p3 : Int32) : Met l y_DR_kind w_DR_kind rm_DR_kind (va_Pc [.ref x0, .int p1, .int p2, .int p3] (c_pre dC dI cI cL cZ [(x0, .inr (0, [.ref aS, .ref aT, .ref aK, .ref aG, .ref aP, .ref aL, .int nm])), (aS, .inr (1, [.ref bS])), (bS, .inl (cI, 12, .inl th))] sz)) (va_Qi (fun (r : Int32) (u : (Nat → Int32)) => f_DR_kind th p1 p2 p3 = (r, u)) (c_post dC dI (fun (u : (Nat → Int32)) => [(x0, .inr (0, [.ref aS, .ref aT, .ref aK, .ref aG, .ref aP, .ref aL, .int nm])), (aS, .inr (1, [.ref bS])), (bS, .inl (cI, 12, .inl u))]) (va_A [(x0, .inr (0, [.ref aS, .ref aT, .ref aK, .ref aG, .ref aP, .ref aL, .int nm])), (aS, .inr (1, [.ref bS])), (bS, .inl (cI, 12, .inl th))] sz)) (va_A [(x0, .inr (0, [.ref aS, .ref aT, .ref aK, .ref aG, .ref aP, .ref aL, .int nm])), (aS, .inr (1, [.ref bS])), (bS, .inl (cI, 12, .inl th))] sz)) 0 0 (va_A [(x0, .inr (0, [.ref aS, .ref aT, .ref aK, .ref aG, .ref aP, .ref aL, .int nm])), (aS, .inr (1, [.ref bS])), (bS, .inl (cI, 12, .inl th))] sz) := by
  refine Met.ofW (cc := b_DR_kind) (maxL := 4) (ret := (some .boolean)) (by decide) rfl ?_
  intro p e s m args below meth c s₁ B hml hv
  obtain ⟨rfl, hsz, hP, hK, hN, hD0⟩ := hv
  have hx := B.exec
  have hb := B.bytes
  have hr := B.returns
  have hts := atoms_spec (ws := w_DR_kind) B.pre
  have hown : s.vm.findClass R_DR = some m.cls := findClass_of_methodNamed B.named
  have hlocks := B.notSynchronized
  have hwg : ∀ w ∈ wg, w.before ([.ref x0, .int p1, .int p2, .int p3] : List Value).toArray s = true := fun w h => hts w (List.mem_cons_of_mem _ h)
  subst hsz
  have hD := hD0.self (sz := s.heap.size)
  generalize hAe : va_A [(x0, .inr (0, [.ref aS, .ref aT, .ref aK, .ref aG, .ref aP, .ref aL, .int nm])), (aS, .inr (1, [.ref bS])), (bS, .inl (cI, 12, .inl th))] s.heap.size = A at hD ⊢
  have hA : ∀ q : Nat, s.heap.size ≤ q → A q := fun q h => by rw [← hAe]; exact Or.inr h
  have hS : va_S A s.heap s.heap [] := va_S.rf
  have hP : va_P (dC, dI) vwCl [(x0, .inr (0, [.ref aS, .ref aT, .ref aK, .ref aG, .ref aP, .ref aL, .int nm])), (aS, .inr (1, [.ref bS])), (bS, .inl (cI, 12, .inl th))] s.heap := hP
  have hl := lv_entry ([.ref x0, .int p1, .int p2, .int p3]) (n := 4) (Nat.le_of_ble_eq_true rfl)
  rw [lg_entry_eq]
  generalize (lg_sl ([.ref x0, .int p1, .int p2, .int p3]) ++ List.replicate (4 - (lg_sl ([.ref x0, .int p1, .int p2, .int p3])).length) Slot.unset).toArray = ls at hl ⊢
  have hl : lv_has ls 4 [(0, .ref x0), (1, .int p1), (2, .int p2), (3, .int p3)] := hl
  refine lv_iload_n hx hb d_DR_kind_0 rfl (lv_at hl 1 rfl) ?_
  have hPc := hP.sub (ws' := []) [] rfl
  have hDc := hD.sub (ws' := []) [] (by decide) rfl
  refine k_calli hP hD hS hA [] [0, 1, 2] (wc := []) (wr := [(x0, .inr (0, [.ref aS, .ref aT, .ref aK, .ref aG, .ref aP, .ref aL, .int nm])), (aS, .inr (1, [.ref bS])), (bS, .inl (cI, 12, .inl th))]) rfl rfl (by decide) (by decide) (va_runS (As := [.int p1]) (rest := []) ⟨hx, hb, hml, hown, hwg⟩ (c_DR_isKind l dC dI cI cL cZ s.heap.size p1) (va_cwS 1 hwg (g_S kw_103 kw_104 kw_14 kw_105) rfl rfl rfl (by decide +kernel) ⟨Nat.le_of_ble_eq_true rfl, Nat.le_of_ble_eq_true rfl⟩) ⟨c_pre_call, c_pre_mk hPc hDc hK hN _⟩ rfl rfl hl.1 rfl (lv_room (Nat.le_of_ble_eq_true rfl)) d_DR_kind_1 ⟨Nat.le_of_ble_eq_true rfl, Nat.le_of_ble_eq_true rfl⟩) (fun r1 u H1 locs w1 hz1 hP hD hS => ?_)
  have hP := hP.sub (ws' := [(x0, .inr (0, [.ref aS, .ref aT, .ref aK, .ref aG, .ref aP, .ref aL, .int nm])), (aS, .inr (1, [.ref bS])), (bS, .inl (cI, 12, .inl th))]) [0, 1, 2] rfl
  have hD := hD.sub (ws' := [(x0, .inr (0, [.ref aS, .ref aT, .ref aK, .ref aG, .ref aP, .ref aL, .int nm])), (aS, .inr (1, [.ref bS])), (bS, .inl (cI, 12, .inl th))]) [0, 1, 2] (by decide) rfl
  refine lv_if_eq (tgt := 27) hx hb d_DR_kind_4 (by decide) (fun (c4 : r1 = 0) => ?_) (fun (c4 : ¬ (r1 = 0)) => ?_)
  · refine lv_iconst (v := 0) hx hb d_DR_kind_27 (by decide) ?_
    have hP9 := hP.sub (ws' := [(x0, .inr (0, [.ref aS, .ref aT, .ref aK, .ref aG, .ref aP, .ref aL, .int nm])), (aS, .inr (1, [.ref bS])), (bS, .inl (cI, 12, .inl th))]) [0, 1, 2] rfl
    have hD9 := hD.sub (ws' := [(x0, .inr (0, [.ref aS, .ref aT, .ref aK, .ref aG, .ref aP, .ref aL, .int nm])), (aS, .inr (1, [.ref bS])), (bS, .inl (cI, 12, .inl th))]) [0, 1, 2] (by decide) rfl
    exact W.zret (ty := .boolean) (v := 0) hx hb hr rfl (fun t ht hW => ⟨⟨0, (th), rfl, by simp only [f_DR_kind, w1, if_pos c4], by rw [ht]; exact hP9, hD9⟩, hS.F ht⟩) hS.2.2 d_DR_kind_28
  · refine lv_iload_n hx hb d_DR_kind_7 rfl (lv_at hl 2 rfl) ?_
    refine lv_iconst (v := 0) hx hb d_DR_kind_8 (by decide) ?_
    refine lv_iconst (v := 2) hx hb d_DR_kind_9 (by decide) ?_
    have hPc := hP.sub (ws' := []) [] rfl
    have hDc := hD.sub (ws' := []) [] (by decide) rfl
    refine k_calli hP hD hS hA [] [0, 1, 2] (wc := []) (wr := [(x0, .inr (0, [.ref aS, .ref aT, .ref aK, .ref aG, .ref aP, .ref aL, .int nm])), (aS, .inr (1, [.ref bS])), (bS, .inl (cI, 12, .inl th))]) rfl rfl (by decide) (by decide) (va_runS (As := [.int p2, .int 0, .int 2]) (rest := []) ⟨hx, hb, hml, hown, hwg⟩ (c_DR_within l dC dI cI cL cZ H1.size p2 0 2) (va_cwS 3 hwg (g_S kw_106 kw_107 kw_14 kw_108) rfl rfl rfl (by decide +kernel) ⟨Nat.le_of_ble_eq_true rfl, Nat.le_of_ble_eq_true rfl⟩) ⟨c_pre_call, c_pre_mk hPc hDc hK hN _⟩ rfl rfl hl.1 rfl (lv_room (Nat.le_of_ble_eq_true rfl)) d_DR_kind_10 ⟨Nat.le_of_ble_eq_true rfl, Nat.le_of_ble_eq_true rfl⟩) (fun r10 u H10 locs w10 hz1 hP hD hS => ?_)
    have hP := hP.sub (ws' := [(x0, .inr (0, [.ref aS, .ref aT, .ref aK, .ref aG, .ref aP, .ref aL, .int nm])), (aS, .inr (1, [.ref bS])), (bS, .inl (cI, 12, .inl th))]) [0, 1, 2] rfl
    have hD := hD.sub (ws' := [(x0, .inr (0, [.ref aS, .ref aT, .ref aK, .ref aG, .ref aP, .ref aL, .int nm])), (aS, .inr (1, [.ref bS])), (bS, .inl (cI, 12, .inl th))]) [0, 1, 2] (by decide) rfl
    refine lv_if_eq (tgt := 27) hx hb d_DR_kind_13 (by decide) (fun (c13 : r10 = 0) => ?_) (fun (c13 : ¬ (r10 = 0)) => ?_)
    · refine lv_iconst (v := 0) hx hb d_DR_kind_27 (by decide) ?_
      have hP9 := hP.sub (ws' := [(x0, .inr (0, [.ref aS, .ref aT, .ref aK, .ref aG, .ref aP, .ref aL, .int nm])), (aS, .inr (1, [.ref bS])), (bS, .inl (cI, 12, .inl th))]) [0, 1, 2] rfl
      have hD9 := hD.sub (ws' := [(x0, .inr (0, [.ref aS, .ref aT, .ref aK, .ref aG, .ref aP, .ref aL, .int nm])), (aS, .inr (1, [.ref bS])), (bS, .inl (cI, 12, .inl th))]) [0, 1, 2] (by decide) rfl
      exact W.zret (ty := .boolean) (v := 0) hx hb hr rfl (fun t ht hW => ⟨⟨0, (th), rfl, by simp only [f_DR_kind, w1, if_neg c4, w10, if_pos c13], by rw [ht]; exact hP9, hD9⟩, hS.F ht⟩) hS.2.2 d_DR_kind_28
    · refine lv_iload_n hx hb d_DR_kind_16 rfl (lv_at hl 3 rfl) ?_
      refine lv_iconst (v := 0) hx hb d_DR_kind_17 (by decide) ?_
      refine lv_sipush (v := 1000) hx hb d_DR_kind_18 (by decide) ?_
      have hPc := hP.sub (ws' := []) [] rfl
      have hDc := hD.sub (ws' := []) [] (by decide) rfl
      refine k_calli hP hD hS hA [] [0, 1, 2] (wc := []) (wr := [(x0, .inr (0, [.ref aS, .ref aT, .ref aK, .ref aG, .ref aP, .ref aL, .int nm])), (aS, .inr (1, [.ref bS])), (bS, .inl (cI, 12, .inl th))]) rfl rfl (by decide) (by decide) (va_runS (As := [.int p3, .int 0, .int 1000]) (rest := []) ⟨hx, hb, hml, hown, hwg⟩ (c_DR_within l dC dI cI cL cZ H10.size p3 0 1000) (va_cwS 3 hwg (g_S kw_106 kw_107 kw_14 kw_108) rfl rfl rfl (by decide +kernel) ⟨Nat.le_of_ble_eq_true rfl, Nat.le_of_ble_eq_true rfl⟩) ⟨c_pre_call, c_pre_mk hPc hDc hK hN _⟩ rfl rfl hl.1 rfl (lv_room (Nat.le_of_ble_eq_true rfl)) d_DR_kind_21 ⟨Nat.le_of_ble_eq_true rfl, Nat.le_of_ble_eq_true rfl⟩) (fun r21 u H21 locs w21 hz1 hP hD hS => ?_)
      have hP := hP.sub (ws' := [(x0, .inr (0, [.ref aS, .ref aT, .ref aK, .ref aG, .ref aP, .ref aL, .int nm])), (aS, .inr (1, [.ref bS])), (bS, .inl (cI, 12, .inl th))]) [0, 1, 2] rfl
      have hD := hD.sub (ws' := [(x0, .inr (0, [.ref aS, .ref aT, .ref aK, .ref aG, .ref aP, .ref aL, .int nm])), (aS, .inr (1, [.ref bS])), (bS, .inl (cI, 12, .inl th))]) [0, 1, 2] (by decide) rfl
      refine lv_if_ne (tgt := 29) hx hb d_DR_kind_24 (by decide) (fun (c24 : ¬ (r21 = 0)) => ?_) (fun (c24 : r21 = 0) => ?_)
      · refine lv_aload_n hx hb d_DR_kind_29 rfl (lv_at hl 0 rfl) ?_
        refine va_get (D := (dC, dI)) (ci := 0) (v := .ref aS) (C := R_DR) (T := F_DR) (N := 7) hx hb hwg iu_DR hown hK hP 0 rfl rfl 0 (by decide) (hwg _ kw_92) (fun _ h9 => h9) rfl d_DR_kind_30 ?_
        refine lv_iload_n hx hb d_DR_kind_33 rfl (lv_at hl 1 rfl) ?_
        refine lv_iload_n hx hb d_DR_kind_34 rfl (lv_at hl 2 rfl) ?_
        refine lv_iload_n hx hb d_DR_kind_35 rfl (lv_at hl 3 rfl) ?_
        have hPc := hP.sub (ws' := [(aS, .inr (1, [.ref bS])), (bS, .inl (cI, 12, .inl th))]) [1, 2] rfl
        have hDc := hD.sub (ws' := [(aS, .inr (1, [.ref bS])), (bS, .inl (cI, 12, .inl th))]) [1, 2] (by decide) rfl
        refine k_calli hP hD hS hA [1, 2] [0] (wc := [(aS, .inr (1, [.ref bS])), (bS, .inl (cI, 12, .inl th))]) (wr := [(x0, .inr (0, [.ref aS, .ref aT, .ref aK, .ref aG, .ref aP, .ref aL, .int nm]))]) rfl rfl (by decide) (by decide) (va_runV (As := [.int p1, .int p2, .int p3]) (rest := []) ⟨hx, hb, hml, hown, hwg⟩ (c_Shares_change l dC dI cI cL cZ aS bS H21.size th p1 p2 p3 (in_isKind w1 c4) (in_w2 w10 c13)) (cwV 3 hwg (g_V kw_109 kw_110 kw_111 kw_15 kw_112) rfl rfl rfl (by decide +kernel) ⟨Nat.le_of_ble_eq_true rfl, Nat.le_of_ble_eq_true rfl⟩) ⟨c_pre_call, va_recv hK hPc (ci := 1) (q0 := 0) rfl rfl, c_pre_mk hPc hDc hK hN _⟩ rfl rfl hl.1 rfl (lv_room (Nat.le_of_ble_eq_true rfl)) d_DR_kind_36 ⟨Nat.le_of_ble_eq_true rfl, Nat.le_of_ble_eq_true rfl⟩) (fun r36 u H36 locs w36 hz1 hP hD hS => ?_)
        obtain ⟨th_36, rfl⟩ : ∃ z, z = u := ⟨_, rfl⟩
        have hP := hP.sub (ws' := [(x0, .inr (0, [.ref aS, .ref aT, .ref aK, .ref aG, .ref aP, .ref aL, .int nm])), (aS, .inr (1, [.ref bS])), (bS, .inl (cI, 12, .inl th_36))]) [0, 1, 2] rfl
        have hD := hD.sub (ws' := [(x0, .inr (0, [.ref aS, .ref aT, .ref aK, .ref aG, .ref aP, .ref aL, .int nm])), (aS, .inr (1, [.ref bS])), (bS, .inl (cI, 12, .inl th_36))]) [0, 1, 2] (by decide) rfl
        have hP9 := hP.sub (ws' := [(x0, .inr (0, [.ref aS, .ref aT, .ref aK, .ref aG, .ref aP, .ref aL, .int nm])), (aS, .inr (1, [.ref bS])), (bS, .inl (cI, 12, .inl th_36))]) [0, 1, 2] rfl
        have hD9 := hD.sub (ws' := [(x0, .inr (0, [.ref aS, .ref aT, .ref aK, .ref aG, .ref aP, .ref aL, .int nm])), (aS, .inr (1, [.ref bS])), (bS, .inl (cI, 12, .inl th_36))]) [0, 1, 2] (by decide) rfl
        exact W.zret (ty := .boolean) (v := r36) hx hb hr (f_change_nar w36) (fun t ht hW => ⟨⟨r36, (th_36), rfl, by simp only [f_DR_kind, w1, if_neg c4, w10, if_neg c13, w21, if_neg c24, w36], by rw [ht]; exact hP9, hD9⟩, hS.F ht⟩) hS.2.2 d_DR_kind_39
      · refine lv_iconst (v := 0) hx hb d_DR_kind_27 (by decide) ?_
        have hP9 := hP.sub (ws' := [(x0, .inr (0, [.ref aS, .ref aT, .ref aK, .ref aG, .ref aP, .ref aL, .int nm])), (aS, .inr (1, [.ref bS])), (bS, .inl (cI, 12, .inl th))]) [0, 1, 2] rfl
        have hD9 := hD.sub (ws' := [(x0, .inr (0, [.ref aS, .ref aT, .ref aK, .ref aG, .ref aP, .ref aL, .int nm])), (aS, .inr (1, [.ref bS])), (bS, .inl (cI, 12, .inl th))]) [0, 1, 2] (by decide) rfl
        exact W.zret (ty := .boolean) (v := 0) hx hb hr rfl (fun t ht hW => ⟨⟨0, (th), rfl, by simp only [f_DR_kind, w1, if_neg c4, w10, if_neg c13, w21, if_pos c24], by rw [ht]; exact hP9, hD9⟩, hS.F ht⟩) hS.2.2 d_DR_kind_28
def f_DR_start (cam : Int64) (gr : Nat → Int64) (p1 : Int32) (p2 : Int32) : Int32 × Int64 × (Nat → Int64) := let r1 := f_DR_isPart p1; if r1 = 0 then ((0, cam, gr)) else (let r11 := f_DR_within p2 0 1000000; if r11 = 0 then ((0, cam, gr)) else (if (lg_cmp ((gr (Int32.toNatClampNeg p1)) + (Int32.toInt64 p2)) 1000000000) ≤ 0 then (match f_Tank_bring cam gr p1 (Int32.toInt64 p2) with | (cam_47, gr_47) => (1, cam_47, gr_47)) else ((0, cam, gr))))
abbrev rm_DR_start : Room := { frames := 2, cells := 0, slots := 0, locals := 42 }
set_option maxHeartbeats 4000000 in
set_option maxRecDepth 100000 in
theorem c_DR_start (l : Launch) (dC : Nat → ClassId) (dI : Nat → Nat → Nat) (cI cL cZ : ClassId) (x0 aS aT aK aG aP aL bK1 bK2 : Nat) (sz : Nat) (nm : Int32) (sb : Int32) (cam : Int64) (gma : Int64) (gr : Nat → Int64) (p1 : Int32) (p2 : Int32) : Met l y_DR_start w_DR_start rm_DR_start (va_Pc [.ref x0, .int p1, .int p2] (c_pre dC dI cI cL cZ [(x0, .inr (0, [.ref aS, .ref aT, .ref aK, .ref aG, .ref aP, .ref aL, .int nm])), (aK, .inr (3, [.ref bK1, .ref bK2, .int sb, .long cam, .long gma])), (bK1, .inl (cL, 4, .inr (.inl gr)))] sz)) (va_Qi (fun (r : Int32) (u : Int64 × (Nat → Int64)) => f_DR_start cam gr p1 p2 = (r, u)) (c_post dC dI (fun (u : Int64 × (Nat → Int64)) => [(x0, .inr (0, [.ref aS, .ref aT, .ref aK, .ref aG, .ref aP, .ref aL, .int nm])), (aK, .inr (3, [.ref bK1, .ref bK2, .int sb, .long u.1, .long gma])), (bK1, .inl (cL, 4, .inr (.inl u.2)))]) (va_A [(x0, .inr (0, [.ref aS, .ref aT, .ref aK, .ref aG, .ref aP, .ref aL, .int nm])), (aK, .inr (3, [.ref bK1, .ref bK2, .int sb, .long cam, .long gma])), (bK1, .inl (cL, 4, .inr (.inl gr)))] sz)) (va_A [(x0, .inr (0, [.ref aS, .ref aT, .ref aK, .ref aG, .ref aP, .ref aL, .int nm])), (aK, .inr (3, [.ref bK1, .ref bK2, .int sb, .long cam, .long gma])), (bK1, .inl (cL, 4, .inr (.inl gr)))] sz)) 0 0 (va_A [(x0, .inr (0, [.ref aS, .ref aT, .ref aK, .ref aG, .ref aP, .ref aL, .int nm])), (aK, .inr (3, [.ref bK1, .ref bK2, .int sb, .long cam, .long gma])), (bK1, .inl (cL, 4, .inr (.inl gr)))] sz) := by
  refine Met.ofW (cc := b_DR_start) (maxL := 3) (ret := (some .boolean)) (by decide) rfl ?_
  intro p e s m args below meth c s₁ B hml hv
  obtain ⟨rfl, hsz, hP, hK, hN, hD0⟩ := hv
  have hx := B.exec
  have hb := B.bytes
  have hr := B.returns
  have hts := atoms_spec (ws := w_DR_start) B.pre
  have hown : s.vm.findClass R_DR = some m.cls := findClass_of_methodNamed B.named
  have hlocks := B.notSynchronized
  have hwg : ∀ w ∈ wg, w.before ([.ref x0, .int p1, .int p2] : List Value).toArray s = true := fun w h => hts w (List.mem_cons_of_mem _ h)
  subst hsz
  have hD := hD0.self (sz := s.heap.size)
  generalize hAe : va_A [(x0, .inr (0, [.ref aS, .ref aT, .ref aK, .ref aG, .ref aP, .ref aL, .int nm])), (aK, .inr (3, [.ref bK1, .ref bK2, .int sb, .long cam, .long gma])), (bK1, .inl (cL, 4, .inr (.inl gr)))] s.heap.size = A at hD ⊢
  have hA : ∀ q : Nat, s.heap.size ≤ q → A q := fun q h => by rw [← hAe]; exact Or.inr h
  have hS : va_S A s.heap s.heap [] := va_S.rf
  have hP : va_P (dC, dI) vwCl [(x0, .inr (0, [.ref aS, .ref aT, .ref aK, .ref aG, .ref aP, .ref aL, .int nm])), (aK, .inr (3, [.ref bK1, .ref bK2, .int sb, .long cam, .long gma])), (bK1, .inl (cL, 4, .inr (.inl gr)))] s.heap := hP
  have hl := lv_entry ([.ref x0, .int p1, .int p2]) (n := 3) (Nat.le_of_ble_eq_true rfl)
  rw [lg_entry_eq]
  generalize (lg_sl ([.ref x0, .int p1, .int p2]) ++ List.replicate (3 - (lg_sl ([.ref x0, .int p1, .int p2])).length) Slot.unset).toArray = ls at hl ⊢
  have hl : lv_has ls 3 [(0, .ref x0), (1, .int p1), (2, .int p2)] := hl
  refine lv_iload_n hx hb d_DR_start_0 rfl (lv_at hl 1 rfl) ?_
  have hPc := hP.sub (ws' := []) [] rfl
  have hDc := hD.sub (ws' := []) [] (by decide) rfl
  refine k_calli hP hD hS hA [] [0, 1, 2] (wc := []) (wr := [(x0, .inr (0, [.ref aS, .ref aT, .ref aK, .ref aG, .ref aP, .ref aL, .int nm])), (aK, .inr (3, [.ref bK1, .ref bK2, .int sb, .long cam, .long gma])), (bK1, .inl (cL, 4, .inr (.inl gr)))]) rfl rfl (by decide) (by decide) (va_runS (As := [.int p1]) (rest := []) ⟨hx, hb, hml, hown, hwg⟩ (c_DR_isPart l dC dI cI cL cZ s.heap.size p1) (va_cwS 1 hwg (g_S kw_121 kw_122 kw_14 kw_123) rfl rfl rfl (by decide +kernel) ⟨Nat.le_of_ble_eq_true rfl, Nat.le_of_ble_eq_true rfl⟩) ⟨c_pre_call, c_pre_mk hPc hDc hK hN _⟩ rfl rfl hl.1 rfl (lv_room (Nat.le_of_ble_eq_true rfl)) d_DR_start_1 ⟨Nat.le_of_ble_eq_true rfl, Nat.le_of_ble_eq_true rfl⟩) (fun r1 u H1 locs w1 hz1 hP hD hS => ?_)
  have hP := hP.sub (ws' := [(x0, .inr (0, [.ref aS, .ref aT, .ref aK, .ref aG, .ref aP, .ref aL, .int nm])), (aK, .inr (3, [.ref bK1, .ref bK2, .int sb, .long cam, .long gma])), (bK1, .inl (cL, 4, .inr (.inl gr)))]) [0, 1, 2] rfl
  have hD := hD.sub (ws' := [(x0, .inr (0, [.ref aS, .ref aT, .ref aK, .ref aG, .ref aP, .ref aL, .int nm])), (aK, .inr (3, [.ref bK1, .ref bK2, .int sb, .long cam, .long gma])), (bK1, .inl (cL, 4, .inr (.inl gr)))]) [0, 1, 2] (by decide) rfl
  refine lv_if_eq (tgt := 17) hx hb d_DR_start_4 (by decide) (fun (c4 : r1 = 0) => ?_) (fun (c4 : ¬ (r1 = 0)) => ?_)
  · refine lv_iconst (v := 0) hx hb d_DR_start_17 (by decide) ?_
    have hP9 := hP.sub (ws' := [(x0, .inr (0, [.ref aS, .ref aT, .ref aK, .ref aG, .ref aP, .ref aL, .int nm])), (aK, .inr (3, [.ref bK1, .ref bK2, .int sb, .long cam, .long gma])), (bK1, .inl (cL, 4, .inr (.inl gr)))]) [0, 1, 2] rfl
    have hD9 := hD.sub (ws' := [(x0, .inr (0, [.ref aS, .ref aT, .ref aK, .ref aG, .ref aP, .ref aL, .int nm])), (aK, .inr (3, [.ref bK1, .ref bK2, .int sb, .long cam, .long gma])), (bK1, .inl (cL, 4, .inr (.inl gr)))]) [0, 1, 2] (by decide) rfl
    exact W.zret (ty := .boolean) (v := 0) hx hb hr rfl (fun t ht hW => ⟨⟨0, (cam, gr), rfl, by simp only [f_DR_start, w1, if_pos c4], by rw [ht]; exact hP9, hD9⟩, hS.F ht⟩) hS.2.2 d_DR_start_18
  · refine lv_iload_n hx hb d_DR_start_7 rfl (lv_at hl 2 rfl) ?_
    refine lv_iconst (v := 0) hx hb d_DR_start_8 (by decide) ?_
    refine lv_ldc hx hb hown (hwg _ kw_124) d_DR_start_9 ?_
    have hPc := hP.sub (ws' := []) [] rfl
    have hDc := hD.sub (ws' := []) [] (by decide) rfl
    refine k_calli hP hD hS hA [] [0, 1, 2] (wc := []) (wr := [(x0, .inr (0, [.ref aS, .ref aT, .ref aK, .ref aG, .ref aP, .ref aL, .int nm])), (aK, .inr (3, [.ref bK1, .ref bK2, .int sb, .long cam, .long gma])), (bK1, .inl (cL, 4, .inr (.inl gr)))]) rfl rfl (by decide) (by decide) (va_runS (As := [.int p2, .int 0, .int 1000000]) (rest := []) ⟨hx, hb, hml, hown, hwg⟩ (c_DR_within l dC dI cI cL cZ H1.size p2 0 1000000) (va_cwS 3 hwg (g_S kw_106 kw_107 kw_14 kw_108) rfl rfl rfl (by decide +kernel) ⟨Nat.le_of_ble_eq_true rfl, Nat.le_of_ble_eq_true rfl⟩) ⟨c_pre_call, c_pre_mk hPc hDc hK hN _⟩ rfl rfl hl.1 rfl (lv_room (Nat.le_of_ble_eq_true rfl)) d_DR_start_11 ⟨Nat.le_of_ble_eq_true rfl, Nat.le_of_ble_eq_true rfl⟩) (fun r11 u H11 locs w11 hz1 hP hD hS => ?_)
    have hP := hP.sub (ws' := [(x0, .inr (0, [.ref aS, .ref aT, .ref aK, .ref aG, .ref aP, .ref aL, .int nm])), (aK, .inr (3, [.ref bK1, .ref bK2, .int sb, .long cam, .long gma])), (bK1, .inl (cL, 4, .inr (.inl gr)))]) [0, 1, 2] rfl
    have hD := hD.sub (ws' := [(x0, .inr (0, [.ref aS, .ref aT, .ref aK, .ref aG, .ref aP, .ref aL, .int nm])), (aK, .inr (3, [.ref bK1, .ref bK2, .int sb, .long cam, .long gma])), (bK1, .inl (cL, 4, .inr (.inl gr)))]) [0, 1, 2] (by decide) rfl
    refine lv_if_ne (tgt := 19) hx hb d_DR_start_14 (by decide) (fun (c14 : ¬ (r11 = 0)) => ?_) (fun (c14 : r11 = 0) => ?_)
    · refine lv_aload_n hx hb d_DR_start_19 rfl (lv_at hl 0 rfl) ?_
      refine va_get (D := (dC, dI)) (ci := 0) (v := .ref aK) (C := R_DR) (T := F_DR) (N := 7) hx hb hwg iu_DR hown hK hP 0 rfl rfl 2 (by decide) (hwg _ kw_94) (fun _ h9 => h9) rfl d_DR_start_20 ?_
      refine va_getN (D := (dC, dI)) (ci := 3) (v := .ref bK1) (C := R_Tank) (T := F_Tank) (N := 5) hx hb hwg iu_Tank hown hK hP 1 rfl rfl 0 (by decide) (va_Nw.use rfl (hN _ nk_7)) (fun _ h9 => h9) rfl d_DR_start_23 ?_
      refine lv_iload_n hx hb d_DR_start_26 rfl (lv_at hl 1 rfl) ?_
      refine va_lald hx hb hK hP 2 1 rfl rfl (in_isPart w1 c4) d_DR_start_27 ?_
      refine lv_iload_n hx hb d_DR_start_28 rfl (lv_at hl 2 rfl) ?_
      refine lv_i2l hx hb d_DR_start_29 rfl ?_
      refine lv_ladd hx hb d_DR_start_30 ?_
      refine lv_ldc2 hx hb hown (hwg _ kw_125) d_DR_start_31 ?_
      refine W.lcmp hx hb d_DR_start_34 ?_
      refine lv_if_le (tgt := 40) hx hb d_DR_start_35 (by decide) (fun (c35 : (lg_cmp ((gr (Int32.toNatClampNeg p1)) + (Int32.toInt64 p2)) 1000000000) ≤ 0) => ?_) (fun (c35 : ¬ ((lg_cmp ((gr (Int32.toNatClampNeg p1)) + (Int32.toInt64 p2)) 1000000000) ≤ 0)) => ?_)
      · refine lv_aload_n hx hb d_DR_start_40 rfl (lv_at hl 0 rfl) ?_
        refine va_get (D := (dC, dI)) (ci := 0) (v := .ref aK) (C := R_DR) (T := F_DR) (N := 7) hx hb hwg iu_DR hown hK hP 0 rfl rfl 2 (by decide) (hwg _ kw_94) (fun _ h9 => h9) rfl d_DR_start_41 ?_
        refine lv_iload_n hx hb d_DR_start_44 rfl (lv_at hl 1 rfl) ?_
        refine lv_iload_n hx hb d_DR_start_45 rfl (lv_at hl 2 rfl) ?_
        refine lv_i2l hx hb d_DR_start_46 rfl ?_
        have hPc := hP.sub (ws' := [(aK, .inr (3, [.ref bK1, .ref bK2, .int sb, .long cam, .long gma])), (bK1, .inl (cL, 4, .inr (.inl gr)))]) [1, 2] rfl
        have hDc := hD.sub (ws' := [(aK, .inr (3, [.ref bK1, .ref bK2, .int sb, .long cam, .long gma])), (bK1, .inl (cL, 4, .inr (.inl gr)))]) [1, 2] (by decide) rfl
        refine k_callv hP hD hS hA [1, 2] [0] (wc := [(aK, .inr (3, [.ref bK1, .ref bK2, .int sb, .long cam, .long gma])), (bK1, .inl (cL, 4, .inr (.inl gr)))]) (wr := [(x0, .inr (0, [.ref aS, .ref aT, .ref aK, .ref aG, .ref aP, .ref aL, .int nm]))]) rfl rfl (by decide) (by decide) (va_runV (As := [.int p1, .long (Int32.toInt64 p2)]) (rest := []) ⟨hx, hb, hml, hown, hwg⟩ (c_Tank_bring l dC dI cI cL cZ aK bK1 bK2 H11.size sb cam gma gr p1 (Int32.toInt64 p2) (in_isPart w1 c4)) (cwV 2 hwg (g_V kw_126 kw_127 kw_128 kw_17 kw_129) rfl rfl rfl (by decide +kernel) ⟨Nat.le_of_ble_eq_true rfl, Nat.le_of_ble_eq_true rfl⟩) ⟨c_pre_call, va_recv hK hPc (ci := 3) (q0 := 0) rfl rfl, c_pre_mk hPc hDc hK hN _⟩ rfl rfl hl.1 rfl (lv_room (Nat.le_of_ble_eq_true rfl)) d_DR_start_47 ⟨Nat.le_of_ble_eq_true rfl, Nat.le_of_ble_eq_true rfl⟩) (fun u H47 locs w47 hz1 hP hD hS => ?_)
        obtain ⟨cam_47, gr_47⟩ := u
        have hP := hP.sub (ws' := [(x0, .inr (0, [.ref aS, .ref aT, .ref aK, .ref aG, .ref aP, .ref aL, .int nm])), (aK, .inr (3, [.ref bK1, .ref bK2, .int sb, .long cam_47, .long gma])), (bK1, .inl (cL, 4, .inr (.inl gr_47)))]) [0, 1, 2] rfl
        have hD := hD.sub (ws' := [(x0, .inr (0, [.ref aS, .ref aT, .ref aK, .ref aG, .ref aP, .ref aL, .int nm])), (aK, .inr (3, [.ref bK1, .ref bK2, .int sb, .long cam_47, .long gma])), (bK1, .inl (cL, 4, .inr (.inl gr_47)))]) [0, 1, 2] (by decide) rfl
        refine lv_iconst (v := 1) hx hb d_DR_start_50 (by decide) ?_
        have hP9 := hP.sub (ws' := [(x0, .inr (0, [.ref aS, .ref aT, .ref aK, .ref aG, .ref aP, .ref aL, .int nm])), (aK, .inr (3, [.ref bK1, .ref bK2, .int sb, .long cam_47, .long gma])), (bK1, .inl (cL, 4, .inr (.inl gr_47)))]) [0, 1, 2] rfl
        have hD9 := hD.sub (ws' := [(x0, .inr (0, [.ref aS, .ref aT, .ref aK, .ref aG, .ref aP, .ref aL, .int nm])), (aK, .inr (3, [.ref bK1, .ref bK2, .int sb, .long cam_47, .long gma])), (bK1, .inl (cL, 4, .inr (.inl gr_47)))]) [0, 1, 2] (by decide) rfl
        exact W.zret (ty := .boolean) (v := 1) hx hb hr rfl (fun t ht hW => ⟨⟨1, (cam_47, gr_47), rfl, by simp only [f_DR_start, w1, if_neg c4, w11, if_neg c14, if_pos c35, w47], by rw [ht]; exact hP9, hD9⟩, hS.F ht⟩) hS.2.2 d_DR_start_51
      · refine lv_iconst (v := 0) hx hb d_DR_start_38 (by decide) ?_
        have hP9 := hP.sub (ws' := [(x0, .inr (0, [.ref aS, .ref aT, .ref aK, .ref aG, .ref aP, .ref aL, .int nm])), (aK, .inr (3, [.ref bK1, .ref bK2, .int sb, .long cam, .long gma])), (bK1, .inl (cL, 4, .inr (.inl gr)))]) [0, 1, 2] rfl
        have hD9 := hD.sub (ws' := [(x0, .inr (0, [.ref aS, .ref aT, .ref aK, .ref aG, .ref aP, .ref aL, .int nm])), (aK, .inr (3, [.ref bK1, .ref bK2, .int sb, .long cam, .long gma])), (bK1, .inl (cL, 4, .inr (.inl gr)))]) [0, 1, 2] (by decide) rfl
        exact W.zret (ty := .boolean) (v := 0) hx hb hr rfl (fun t ht hW => ⟨⟨0, (cam, gr), rfl, by simp only [f_DR_start, w1, if_neg c4, w11, if_neg c14, if_neg c35], by rw [ht]; exact hP9, hD9⟩, hS.F ht⟩) hS.2.2 d_DR_start_39
    · refine lv_iconst (v := 0) hx hb d_DR_start_17 (by decide) ?_
      have hP9 := hP.sub (ws' := [(x0, .inr (0, [.ref aS, .ref aT, .ref aK, .ref aG, .ref aP, .ref aL, .int nm])), (aK, .inr (3, [.ref bK1, .ref bK2, .int sb, .long cam, .long gma])), (bK1, .inl (cL, 4, .inr (.inl gr)))]) [0, 1, 2] rfl
      have hD9 := hD.sub (ws' := [(x0, .inr (0, [.ref aS, .ref aT, .ref aK, .ref aG, .ref aP, .ref aL, .int nm])), (aK, .inr (3, [.ref bK1, .ref bK2, .int sb, .long cam, .long gma])), (bK1, .inl (cL, 4, .inr (.inl gr)))]) [0, 1, 2] (by decide) rfl
      exact W.zret (ty := .boolean) (v := 0) hx hb hr rfl (fun t ht hW => ⟨⟨0, (cam, gr), rfl, by simp only [f_DR_start, w1, if_neg c4, w11, if_pos c14], by rw [ht]; exact hP9, hD9⟩, hS.F ht⟩) hS.2.2 d_DR_start_18
def f_DR_feed (nm : Int32) (tc : Int32) (tm : Nat → Int32) (tk : Nat → Int32) (tg : Nat → Int32) (p1 : Int32) (p2 : Int32) (p3 : Int32) : Int32 × Int32 × (Nat → Int32) × (Nat → Int32) × (Nat → Int32) := let r8 := f_DR_within p1 nm 9999; if r8 = 0 then ((0, tc, tm, tk, tg)) else (let r15 := f_DR_isKind p2; if r15 = 0 then ((0, tc, tm, tk, tg)) else (let r25 := f_DR_within p3 1 100000; if r25 = 0 then ((0, tc, tm, tk, tg)) else (let r38 := f_Told_hasRoomFor tc 1; if r38 = 0 then ((0, tc, tm, tk, tg)) else (match f_Told_add tc tm tk tg p1 p2 p3 with | (tc_53, tm_53, tk_53, tg_53) => (1, tc_53, tm_53, tk_53, tg_53)))))
abbrev rm_DR_feed : Room := { frames := 2, cells := 0, slots := 0, locals := 44 }
set_option maxHeartbeats 4000000 in
set_option maxRecDepth 100000 in
theorem c_DR_feed (l : Launch) (dC : Nat → ClassId) (dI : Nat → Nat → Nat) (cI cL cZ : ClassId) (x0 aS aT aK aG aP aL bT1 bT2 bT3 : Nat) (sz : Nat) (nm : Int32) (tc : Int32) (tm : Nat → Int32) (tk : Nat → Int32) (tg : Nat → Int32) (p1 : Int32) (p2 : Int32) (p3 : Int32) (hc : vp_in tc 31) : Met l y_DR_feed w_DR_feed rm_DR_feed (va_Pc [.ref x0, .int p1, .int p2, .int p3] (c_pre dC dI cI cL cZ [(x0, .inr (0, [.ref aS, .ref aT, .ref aK, .ref aG, .ref aP, .ref aL, .int nm])), (aT, .inr (2, [.ref bT1, .ref bT2, .ref bT3, .int tc])), (bT1, .inl (cI, 30, .inl tm)), (bT2, .inl (cI, 30, .inl tk)), (bT3, .inl (cI, 30, .inl tg))] sz)) (va_Qi (fun (r : Int32) (u : Int32 × (Nat → Int32) × (Nat → Int32) × (Nat → Int32)) => f_DR_feed nm tc tm tk tg p1 p2 p3 = (r, u)) (c_post dC dI (fun (u : Int32 × (Nat → Int32) × (Nat → Int32) × (Nat → Int32)) => [(x0, .inr (0, [.ref aS, .ref aT, .ref aK, .ref aG, .ref aP, .ref aL, .int nm])), (aT, .inr (2, [.ref bT1, .ref bT2, .ref bT3, .int u.1])), (bT1, .inl (cI, 30, .inl u.2.1)), (bT2, .inl (cI, 30, .inl u.2.2.1)), (bT3, .inl (cI, 30, .inl u.2.2.2))]) (va_A [(x0, .inr (0, [.ref aS, .ref aT, .ref aK, .ref aG, .ref aP, .ref aL, .int nm])), (aT, .inr (2, [.ref bT1, .ref bT2, .ref bT3, .int tc])), (bT1, .inl (cI, 30, .inl tm)), (bT2, .inl (cI, 30, .inl tk)), (bT3, .inl (cI, 30, .inl tg))] sz)) (va_A [(x0, .inr (0, [.ref aS, .ref aT, .ref aK, .ref aG, .ref aP, .ref aL, .int nm])), (aT, .inr (2, [.ref bT1, .ref bT2, .ref bT3, .int tc])), (bT1, .inl (cI, 30, .inl tm)), (bT2, .inl (cI, 30, .inl tk)), (bT3, .inl (cI, 30, .inl tg))] sz)) 0 0 (va_A [(x0, .inr (0, [.ref aS, .ref aT, .ref aK, .ref aG, .ref aP, .ref aL, .int nm])), (aT, .inr (2, [.ref bT1, .ref bT2, .ref bT3, .int tc])), (bT1, .inl (cI, 30, .inl tm)), (bT2, .inl (cI, 30, .inl tk)), (bT3, .inl (cI, 30, .inl tg))] sz) := by
  refine Met.ofW (cc := b_DR_feed) (maxL := 4) (ret := (some .boolean)) (by decide) rfl ?_
  intro p e s m args below meth c s₁ B hml hv
  obtain ⟨rfl, hsz, hP, hK, hN, hD0⟩ := hv
  have hx := B.exec
  have hb := B.bytes
  have hr := B.returns
  have hts := atoms_spec (ws := w_DR_feed) B.pre
  have hown : s.vm.findClass R_DR = some m.cls := findClass_of_methodNamed B.named
  have hlocks := B.notSynchronized
  have hwg : ∀ w ∈ wg, w.before ([.ref x0, .int p1, .int p2, .int p3] : List Value).toArray s = true := fun w h => hts w (List.mem_cons_of_mem _ h)
  subst hsz
  have hD := hD0.self (sz := s.heap.size)
  generalize hAe : va_A [(x0, .inr (0, [.ref aS, .ref aT, .ref aK, .ref aG, .ref aP, .ref aL, .int nm])), (aT, .inr (2, [.ref bT1, .ref bT2, .ref bT3, .int tc])), (bT1, .inl (cI, 30, .inl tm)), (bT2, .inl (cI, 30, .inl tk)), (bT3, .inl (cI, 30, .inl tg))] s.heap.size = A at hD ⊢
  have hA : ∀ q : Nat, s.heap.size ≤ q → A q := fun q h => by rw [← hAe]; exact Or.inr h
  have hS : va_S A s.heap s.heap [] := va_S.rf
  have hP : va_P (dC, dI) vwCl [(x0, .inr (0, [.ref aS, .ref aT, .ref aK, .ref aG, .ref aP, .ref aL, .int nm])), (aT, .inr (2, [.ref bT1, .ref bT2, .ref bT3, .int tc])), (bT1, .inl (cI, 30, .inl tm)), (bT2, .inl (cI, 30, .inl tk)), (bT3, .inl (cI, 30, .inl tg))] s.heap := hP
  have hl := lv_entry ([.ref x0, .int p1, .int p2, .int p3]) (n := 4) (Nat.le_of_ble_eq_true rfl)
  rw [lg_entry_eq]
  generalize (lg_sl ([.ref x0, .int p1, .int p2, .int p3]) ++ List.replicate (4 - (lg_sl ([.ref x0, .int p1, .int p2, .int p3])).length) Slot.unset).toArray = ls at hl ⊢
  have hl : lv_has ls 4 [(0, .ref x0), (1, .int p1), (2, .int p2), (3, .int p3)] := hl
  refine lv_iload_n hx hb d_DR_feed_0 rfl (lv_at hl 1 rfl) ?_
  refine lv_aload_n hx hb d_DR_feed_1 rfl (lv_at hl 0 rfl) ?_
  refine va_get (D := (dC, dI)) (ci := 0) (v := .int nm) (C := R_DR) (T := F_DR) (N := 7) hx hb hwg iu_DR hown hK hP 0 rfl rfl 6 (by decide) (hwg _ kw_98) (fun _ h9 => h9) rfl d_DR_feed_2 ?_
  refine lv_sipush (v := 9999) hx hb d_DR_feed_5 (by decide) ?_
  have hPc := hP.sub (ws' := []) [] rfl
  have hDc := hD.sub (ws' := []) [] (by decide) rfl
  refine k_calli hP hD hS hA [] [0, 1, 2, 3, 4] (wc := []) (wr := [(x0, .inr (0, [.ref aS, .ref aT, .ref aK, .ref aG, .ref aP, .ref aL, .int nm])), (aT, .inr (2, [.ref bT1, .ref bT2, .ref bT3, .int tc])), (bT1, .inl (cI, 30, .inl tm)), (bT2, .inl (cI, 30, .inl tk)), (bT3, .inl (cI, 30, .inl tg))]) rfl rfl (by decide) (by decide) (va_runS (As := [.int p1, .int nm, .int 9999]) (rest := []) ⟨hx, hb, hml, hown, hwg⟩ (c_DR_within l dC dI cI cL cZ s.heap.size p1 nm 9999) (va_cwS 3 hwg (g_S kw_106 kw_107 kw_14 kw_108) rfl rfl rfl (by decide +kernel) ⟨Nat.le_of_ble_eq_true rfl, Nat.le_of_ble_eq_true rfl⟩) ⟨c_pre_call, c_pre_mk hPc hDc hK hN _⟩ rfl rfl hl.1 rfl (lv_room (Nat.le_of_ble_eq_true rfl)) d_DR_feed_8 ⟨Nat.le_of_ble_eq_true rfl, Nat.le_of_ble_eq_true rfl⟩) (fun r8 u H8 locs w8 hz1 hP hD hS => ?_)
  have hP := hP.sub (ws' := [(x0, .inr (0, [.ref aS, .ref aT, .ref aK, .ref aG, .ref aP, .ref aL, .int nm])), (aT, .inr (2, [.ref bT1, .ref bT2, .ref bT3, .int tc])), (bT1, .inl (cI, 30, .inl tm)), (bT2, .inl (cI, 30, .inl tk)), (bT3, .inl (cI, 30, .inl tg))]) [0, 1, 2, 3, 4] rfl
  have hD := hD.sub (ws' := [(x0, .inr (0, [.ref aS, .ref aT, .ref aK, .ref aG, .ref aP, .ref aL, .int nm])), (aT, .inr (2, [.ref bT1, .ref bT2, .ref bT3, .int tc])), (bT1, .inl (cI, 30, .inl tm)), (bT2, .inl (cI, 30, .inl tk)), (bT3, .inl (cI, 30, .inl tg))]) [0, 1, 2, 3, 4] (by decide) rfl
  refine lv_if_eq (tgt := 31) hx hb d_DR_feed_11 (by decide) (fun (c11 : r8 = 0) => ?_) (fun (c11 : ¬ (r8 = 0)) => ?_)
  · refine lv_iconst (v := 0) hx hb d_DR_feed_31 (by decide) ?_
    have hP9 := hP.sub (ws' := [(x0, .inr (0, [.ref aS, .ref aT, .ref aK, .ref aG, .ref aP, .ref aL, .int nm])), (aT, .inr (2, [.ref bT1, .ref bT2, .ref bT3, .int tc])), (bT1, .inl (cI, 30, .inl tm)), (bT2, .inl (cI, 30, .inl tk)), (bT3, .inl (cI, 30, .inl tg))]) [0, 1, 2, 3, 4] rfl
    have hD9 := hD.sub (ws' := [(x0, .inr (0, [.ref aS, .ref aT, .ref aK, .ref aG, .ref aP, .ref aL, .int nm])), (aT, .inr (2, [.ref bT1, .ref bT2, .ref bT3, .int tc])), (bT1, .inl (cI, 30, .inl tm)), (bT2, .inl (cI, 30, .inl tk)), (bT3, .inl (cI, 30, .inl tg))]) [0, 1, 2, 3, 4] (by decide) rfl
    exact W.zret (ty := .boolean) (v := 0) hx hb hr rfl (fun t ht hW => ⟨⟨0, (tc, tm, tk, tg), rfl, by simp only [f_DR_feed, w8, if_pos c11], by rw [ht]; exact hP9, hD9⟩, hS.F ht⟩) hS.2.2 d_DR_feed_32
  · refine lv_iload_n hx hb d_DR_feed_14 rfl (lv_at hl 2 rfl) ?_
    have hPc := hP.sub (ws' := []) [] rfl
    have hDc := hD.sub (ws' := []) [] (by decide) rfl
    refine k_calli hP hD hS hA [] [0, 1, 2, 3, 4] (wc := []) (wr := [(x0, .inr (0, [.ref aS, .ref aT, .ref aK, .ref aG, .ref aP, .ref aL, .int nm])), (aT, .inr (2, [.ref bT1, .ref bT2, .ref bT3, .int tc])), (bT1, .inl (cI, 30, .inl tm)), (bT2, .inl (cI, 30, .inl tk)), (bT3, .inl (cI, 30, .inl tg))]) rfl rfl (by decide) (by decide) (va_runS (As := [.int p2]) (rest := []) ⟨hx, hb, hml, hown, hwg⟩ (c_DR_isKind l dC dI cI cL cZ H8.size p2) (va_cwS 1 hwg (g_S kw_103 kw_104 kw_14 kw_105) rfl rfl rfl (by decide +kernel) ⟨Nat.le_of_ble_eq_true rfl, Nat.le_of_ble_eq_true rfl⟩) ⟨c_pre_call, c_pre_mk hPc hDc hK hN _⟩ rfl rfl hl.1 rfl (lv_room (Nat.le_of_ble_eq_true rfl)) d_DR_feed_15 ⟨Nat.le_of_ble_eq_true rfl, Nat.le_of_ble_eq_true rfl⟩) (fun r15 u H15 locs w15 hz1 hP hD hS => ?_)
    have hP := hP.sub (ws' := [(x0, .inr (0, [.ref aS, .ref aT, .ref aK, .ref aG, .ref aP, .ref aL, .int nm])), (aT, .inr (2, [.ref bT1, .ref bT2, .ref bT3, .int tc])), (bT1, .inl (cI, 30, .inl tm)), (bT2, .inl (cI, 30, .inl tk)), (bT3, .inl (cI, 30, .inl tg))]) [0, 1, 2, 3, 4] rfl
    have hD := hD.sub (ws' := [(x0, .inr (0, [.ref aS, .ref aT, .ref aK, .ref aG, .ref aP, .ref aL, .int nm])), (aT, .inr (2, [.ref bT1, .ref bT2, .ref bT3, .int tc])), (bT1, .inl (cI, 30, .inl tm)), (bT2, .inl (cI, 30, .inl tk)), (bT3, .inl (cI, 30, .inl tg))]) [0, 1, 2, 3, 4] (by decide) rfl
    refine lv_if_eq (tgt := 31) hx hb d_DR_feed_18 (by decide) (fun (c18 : r15 = 0) => ?_) (fun (c18 : ¬ (r15 = 0)) => ?_)
    · refine lv_iconst (v := 0) hx hb d_DR_feed_31 (by decide) ?_
      have hP9 := hP.sub (ws' := [(x0, .inr (0, [.ref aS, .ref aT, .ref aK, .ref aG, .ref aP, .ref aL, .int nm])), (aT, .inr (2, [.ref bT1, .ref bT2, .ref bT3, .int tc])), (bT1, .inl (cI, 30, .inl tm)), (bT2, .inl (cI, 30, .inl tk)), (bT3, .inl (cI, 30, .inl tg))]) [0, 1, 2, 3, 4] rfl
      have hD9 := hD.sub (ws' := [(x0, .inr (0, [.ref aS, .ref aT, .ref aK, .ref aG, .ref aP, .ref aL, .int nm])), (aT, .inr (2, [.ref bT1, .ref bT2, .ref bT3, .int tc])), (bT1, .inl (cI, 30, .inl tm)), (bT2, .inl (cI, 30, .inl tk)), (bT3, .inl (cI, 30, .inl tg))]) [0, 1, 2, 3, 4] (by decide) rfl
      exact W.zret (ty := .boolean) (v := 0) hx hb hr rfl (fun t ht hW => ⟨⟨0, (tc, tm, tk, tg), rfl, by simp only [f_DR_feed, w8, if_neg c11, w15, if_pos c18], by rw [ht]; exact hP9, hD9⟩, hS.F ht⟩) hS.2.2 d_DR_feed_32
    · refine lv_iload_n hx hb d_DR_feed_21 rfl (lv_at hl 3 rfl) ?_
      refine lv_iconst (v := 1) hx hb d_DR_feed_22 (by decide) ?_
      refine lv_ldc hx hb hown (hwg _ kw_134) d_DR_feed_23 ?_
      have hPc := hP.sub (ws' := []) [] rfl
      have hDc := hD.sub (ws' := []) [] (by decide) rfl
      refine k_calli hP hD hS hA [] [0, 1, 2, 3, 4] (wc := []) (wr := [(x0, .inr (0, [.ref aS, .ref aT, .ref aK, .ref aG, .ref aP, .ref aL, .int nm])), (aT, .inr (2, [.ref bT1, .ref bT2, .ref bT3, .int tc])), (bT1, .inl (cI, 30, .inl tm)), (bT2, .inl (cI, 30, .inl tk)), (bT3, .inl (cI, 30, .inl tg))]) rfl rfl (by decide) (by decide) (va_runS (As := [.int p3, .int 1, .int 100000]) (rest := []) ⟨hx, hb, hml, hown, hwg⟩ (c_DR_within l dC dI cI cL cZ H15.size p3 1 100000) (va_cwS 3 hwg (g_S kw_106 kw_107 kw_14 kw_108) rfl rfl rfl (by decide +kernel) ⟨Nat.le_of_ble_eq_true rfl, Nat.le_of_ble_eq_true rfl⟩) ⟨c_pre_call, c_pre_mk hPc hDc hK hN _⟩ rfl rfl hl.1 rfl (lv_room (Nat.le_of_ble_eq_true rfl)) d_DR_feed_25 ⟨Nat.le_of_ble_eq_true rfl, Nat.le_of_ble_eq_true rfl⟩) (fun r25 u H25 locs w25 hz1 hP hD hS => ?_)
      have hP := hP.sub (ws' := [(x0, .inr (0, [.ref aS, .ref aT, .ref aK, .ref aG, .ref aP, .ref aL, .int nm])), (aT, .inr (2, [.ref bT1, .ref bT2, .ref bT3, .int tc])), (bT1, .inl (cI, 30, .inl tm)), (bT2, .inl (cI, 30, .inl tk)), (bT3, .inl (cI, 30, .inl tg))]) [0, 1, 2, 3, 4] rfl
      have hD := hD.sub (ws' := [(x0, .inr (0, [.ref aS, .ref aT, .ref aK, .ref aG, .ref aP, .ref aL, .int nm])), (aT, .inr (2, [.ref bT1, .ref bT2, .ref bT3, .int tc])), (bT1, .inl (cI, 30, .inl tm)), (bT2, .inl (cI, 30, .inl tk)), (bT3, .inl (cI, 30, .inl tg))]) [0, 1, 2, 3, 4] (by decide) rfl
      refine lv_if_ne (tgt := 33) hx hb d_DR_feed_28 (by decide) (fun (c28 : ¬ (r25 = 0)) => ?_) (fun (c28 : r25 = 0) => ?_)
      · refine lv_aload_n hx hb d_DR_feed_33 rfl (lv_at hl 0 rfl) ?_
        refine va_get (D := (dC, dI)) (ci := 0) (v := .ref aT) (C := R_DR) (T := F_DR) (N := 7) hx hb hwg iu_DR hown hK hP 0 rfl rfl 1 (by decide) (hwg _ kw_93) (fun _ h9 => h9) rfl d_DR_feed_34 ?_
        refine lv_iconst (v := 1) hx hb d_DR_feed_37 (by decide) ?_
        have hPc := hP.sub (ws' := [(aT, .inr (2, [.ref bT1, .ref bT2, .ref bT3, .int tc]))]) [1] rfl
        have hDc := hD.sub (ws' := [(aT, .inr (2, [.ref bT1, .ref bT2, .ref bT3, .int tc]))]) [1] (by decide) rfl
        refine k_calli hP hD hS hA [1] [0, 2, 3, 4] (wc := [(aT, .inr (2, [.ref bT1, .ref bT2, .ref bT3, .int tc]))]) (wr := [(x0, .inr (0, [.ref aS, .ref aT, .ref aK, .ref aG, .ref aP, .ref aL, .int nm])), (bT1, .inl (cI, 30, .inl tm)), (bT2, .inl (cI, 30, .inl tk)), (bT3, .inl (cI, 30, .inl tg))]) rfl rfl (by decide) (by decide) (va_runV (As := [.int 1]) (rest := []) ⟨hx, hb, hml, hown, hwg⟩ (c_Told_hasRoomFor l dC dI cI cL cZ aT bT1 bT2 bT3 H25.size tc 1) (cwV 1 hwg (g_V kw_135 kw_136 kw_137 kw_16 kw_138) rfl rfl rfl (by decide +kernel) ⟨Nat.le_of_ble_eq_true rfl, Nat.le_of_ble_eq_true rfl⟩) ⟨c_pre_call, va_recv hK hPc (ci := 2) (q0 := 0) rfl rfl, c_pre_mk hPc hDc hK hN _⟩ rfl rfl hl.1 rfl (lv_room (Nat.le_of_ble_eq_true rfl)) d_DR_feed_38 ⟨Nat.le_of_ble_eq_true rfl, Nat.le_of_ble_eq_true rfl⟩) (fun r38 u H38 locs w38 hz1 hP hD hS => ?_)
        have hP := hP.sub (ws' := [(x0, .inr (0, [.ref aS, .ref aT, .ref aK, .ref aG, .ref aP, .ref aL, .int nm])), (aT, .inr (2, [.ref bT1, .ref bT2, .ref bT3, .int tc])), (bT1, .inl (cI, 30, .inl tm)), (bT2, .inl (cI, 30, .inl tk)), (bT3, .inl (cI, 30, .inl tg))]) [0, 4, 1, 2, 3] rfl
        have hD := hD.sub (ws' := [(x0, .inr (0, [.ref aS, .ref aT, .ref aK, .ref aG, .ref aP, .ref aL, .int nm])), (aT, .inr (2, [.ref bT1, .ref bT2, .ref bT3, .int tc])), (bT1, .inl (cI, 30, .inl tm)), (bT2, .inl (cI, 30, .inl tk)), (bT3, .inl (cI, 30, .inl tg))]) [0, 4, 1, 2, 3] (by decide) rfl
        refine lv_if_ne (tgt := 46) hx hb d_DR_feed_41 (by decide) (fun (c41 : ¬ (r38 = 0)) => ?_) (fun (c41 : r38 = 0) => ?_)
        · refine lv_aload_n hx hb d_DR_feed_46 rfl (lv_at hl 0 rfl) ?_
          refine va_get (D := (dC, dI)) (ci := 0) (v := .ref aT) (C := R_DR) (T := F_DR) (N := 7) hx hb hwg iu_DR hown hK hP 0 rfl rfl 1 (by decide) (hwg _ kw_93) (fun _ h9 => h9) rfl d_DR_feed_47 ?_
          refine lv_iload_n hx hb d_DR_feed_50 rfl (lv_at hl 1 rfl) ?_
          refine lv_iload_n hx hb d_DR_feed_51 rfl (lv_at hl 2 rfl) ?_
          refine lv_iload_n hx hb d_DR_feed_52 rfl (lv_at hl 3 rfl) ?_
          have hPc := hP.sub (ws' := [(aT, .inr (2, [.ref bT1, .ref bT2, .ref bT3, .int tc])), (bT1, .inl (cI, 30, .inl tm)), (bT2, .inl (cI, 30, .inl tk)), (bT3, .inl (cI, 30, .inl tg))]) [1, 2, 3, 4] rfl
          have hDc := hD.sub (ws' := [(aT, .inr (2, [.ref bT1, .ref bT2, .ref bT3, .int tc])), (bT1, .inl (cI, 30, .inl tm)), (bT2, .inl (cI, 30, .inl tk)), (bT3, .inl (cI, 30, .inl tg))]) [1, 2, 3, 4] (by decide) rfl
          refine k_callv hP hD hS hA [1, 2, 3, 4] [0] (wc := [(aT, .inr (2, [.ref bT1, .ref bT2, .ref bT3, .int tc])), (bT1, .inl (cI, 30, .inl tm)), (bT2, .inl (cI, 30, .inl tk)), (bT3, .inl (cI, 30, .inl tg))]) (wr := [(x0, .inr (0, [.ref aS, .ref aT, .ref aK, .ref aG, .ref aP, .ref aL, .int nm]))]) rfl rfl (by decide) (by decide) (va_runV (As := [.int p1, .int p2, .int p3]) (rest := []) ⟨hx, hb, hml, hown, hwg⟩ (c_Told_add l dC dI cI cL cZ aT bT1 bT2 bT3 H38.size tc tm tk tg p1 p2 p3 (by first | assumption | decide | omega)) (cwV 3 hwg (g_V kw_139 kw_140 kw_141 kw_16 kw_142) rfl rfl rfl (by decide +kernel) ⟨Nat.le_of_ble_eq_true rfl, Nat.le_of_ble_eq_true rfl⟩) ⟨c_pre_call, va_recv hK hPc (ci := 2) (q0 := 0) rfl rfl, c_pre_mk hPc hDc hK hN _⟩ rfl rfl hl.1 rfl (lv_room (Nat.le_of_ble_eq_true rfl)) d_DR_feed_53 ⟨Nat.le_of_ble_eq_true rfl, Nat.le_of_ble_eq_true rfl⟩) (fun u H53 locs w53 hz1 hP hD hS => ?_)
          obtain ⟨tc_53, tm_53, tk_53, tg_53⟩ := u
          have hP := hP.sub (ws' := [(x0, .inr (0, [.ref aS, .ref aT, .ref aK, .ref aG, .ref aP, .ref aL, .int nm])), (aT, .inr (2, [.ref bT1, .ref bT2, .ref bT3, .int tc_53])), (bT1, .inl (cI, 30, .inl tm_53)), (bT2, .inl (cI, 30, .inl tk_53)), (bT3, .inl (cI, 30, .inl tg_53))]) [0, 1, 2, 3, 4] rfl
          have hD := hD.sub (ws' := [(x0, .inr (0, [.ref aS, .ref aT, .ref aK, .ref aG, .ref aP, .ref aL, .int nm])), (aT, .inr (2, [.ref bT1, .ref bT2, .ref bT3, .int tc_53])), (bT1, .inl (cI, 30, .inl tm_53)), (bT2, .inl (cI, 30, .inl tk_53)), (bT3, .inl (cI, 30, .inl tg_53))]) [0, 1, 2, 3, 4] (by decide) rfl
          refine lv_iconst (v := 1) hx hb d_DR_feed_56 (by decide) ?_
          have hP9 := hP.sub (ws' := [(x0, .inr (0, [.ref aS, .ref aT, .ref aK, .ref aG, .ref aP, .ref aL, .int nm])), (aT, .inr (2, [.ref bT1, .ref bT2, .ref bT3, .int tc_53])), (bT1, .inl (cI, 30, .inl tm_53)), (bT2, .inl (cI, 30, .inl tk_53)), (bT3, .inl (cI, 30, .inl tg_53))]) [0, 1, 2, 3, 4] rfl
          have hD9 := hD.sub (ws' := [(x0, .inr (0, [.ref aS, .ref aT, .ref aK, .ref aG, .ref aP, .ref aL, .int nm])), (aT, .inr (2, [.ref bT1, .ref bT2, .ref bT3, .int tc_53])), (bT1, .inl (cI, 30, .inl tm_53)), (bT2, .inl (cI, 30, .inl tk_53)), (bT3, .inl (cI, 30, .inl tg_53))]) [0, 1, 2, 3, 4] (by decide) rfl
          exact W.zret (ty := .boolean) (v := 1) hx hb hr rfl (fun t ht hW => ⟨⟨1, (tc_53, tm_53, tk_53, tg_53), rfl, by simp only [f_DR_feed, w8, if_neg c11, w15, if_neg c18, w25, if_neg c28, w38, if_neg c41, w53], by rw [ht]; exact hP9, hD9⟩, hS.F ht⟩) hS.2.2 d_DR_feed_57
        · refine lv_iconst (v := 0) hx hb d_DR_feed_44 (by decide) ?_
          have hP9 := hP.sub (ws' := [(x0, .inr (0, [.ref aS, .ref aT, .ref aK, .ref aG, .ref aP, .ref aL, .int nm])), (aT, .inr (2, [.ref bT1, .ref bT2, .ref bT3, .int tc])), (bT1, .inl (cI, 30, .inl tm)), (bT2, .inl (cI, 30, .inl tk)), (bT3, .inl (cI, 30, .inl tg))]) [0, 1, 2, 3, 4] rfl
          have hD9 := hD.sub (ws' := [(x0, .inr (0, [.ref aS, .ref aT, .ref aK, .ref aG, .ref aP, .ref aL, .int nm])), (aT, .inr (2, [.ref bT1, .ref bT2, .ref bT3, .int tc])), (bT1, .inl (cI, 30, .inl tm)), (bT2, .inl (cI, 30, .inl tk)), (bT3, .inl (cI, 30, .inl tg))]) [0, 1, 2, 3, 4] (by decide) rfl
          exact W.zret (ty := .boolean) (v := 0) hx hb hr rfl (fun t ht hW => ⟨⟨0, (tc, tm, tk, tg), rfl, by simp only [f_DR_feed, w8, if_neg c11, w15, if_neg c18, w25, if_neg c28, w38, if_pos c41], by rw [ht]; exact hP9, hD9⟩, hS.F ht⟩) hS.2.2 d_DR_feed_45
      · refine lv_iconst (v := 0) hx hb d_DR_feed_31 (by decide) ?_
        have hP9 := hP.sub (ws' := [(x0, .inr (0, [.ref aS, .ref aT, .ref aK, .ref aG, .ref aP, .ref aL, .int nm])), (aT, .inr (2, [.ref bT1, .ref bT2, .ref bT3, .int tc])), (bT1, .inl (cI, 30, .inl tm)), (bT2, .inl (cI, 30, .inl tk)), (bT3, .inl (cI, 30, .inl tg))]) [0, 1, 2, 3, 4] rfl
        have hD9 := hD.sub (ws' := [(x0, .inr (0, [.ref aS, .ref aT, .ref aK, .ref aG, .ref aP, .ref aL, .int nm])), (aT, .inr (2, [.ref bT1, .ref bT2, .ref bT3, .int tc])), (bT1, .inl (cI, 30, .inl tm)), (bT2, .inl (cI, 30, .inl tk)), (bT3, .inl (cI, 30, .inl tg))]) [0, 1, 2, 3, 4] (by decide) rfl
        exact W.zret (ty := .boolean) (v := 0) hx hb hr rfl (fun t ht hW => ⟨⟨0, (tc, tm, tk, tg), rfl, by simp only [f_DR_feed, w8, if_neg c11, w15, if_neg c18, w25, if_pos c28], by rw [ht]; exact hP9, hD9⟩, hS.F ht⟩) hS.2.2 d_DR_feed_32
def f_DR_rate (rt : Nat → Int32) (p1 : Int32) (p2 : Int32) : Int32 × (Nat → Int32) := let r3 := f_DR_within p1 0 2; if r3 = 0 then ((0, rt)) else (let r13 := f_DR_within p2 0 1000000; if r13 = 0 then ((0, rt)) else ((1, upd rt (Int32.toNatClampNeg p1) p2)))
abbrev rm_DR_rate : Room := { frames := 1, cells := 0, slots := 0, locals := 22 }
set_option maxHeartbeats 4000000 in
set_option maxRecDepth 100000 in
theorem c_DR_rate (l : Launch) (dC : Nat → ClassId) (dI : Nat → Nat → Nat) (cI cL cZ : ClassId) (x0 aS aT aK aG aP aL bK1 bK2 : Nat) (sz : Nat) (nm : Int32) (sb : Int32) (cam : Int64) (gma : Int64) (rt : Nat → Int32) (p1 : Int32) (p2 : Int32) : Met l y_DR_rate w_DR_rate rm_DR_rate (va_Pc [.ref x0, .int p1, .int p2] (c_pre dC dI cI cL cZ [(x0, .inr (0, [.ref aS, .ref aT, .ref aK, .ref aG, .ref aP, .ref aL, .int nm])), (aK, .inr (3, [.ref bK1, .ref bK2, .int sb, .long cam, .long gma])), (bK2, .inl (cI, 3, .inl rt))] sz)) (va_Qi (fun (r : Int32) (u : (Nat → Int32)) => f_DR_rate rt p1 p2 = (r, u)) (c_post dC dI (fun (u : (Nat → Int32)) => [(x0, .inr (0, [.ref aS, .ref aT, .ref aK, .ref aG, .ref aP, .ref aL, .int nm])), (aK, .inr (3, [.ref bK1, .ref bK2, .int sb, .long cam, .long gma])), (bK2, .inl (cI, 3, .inl u))]) (va_A [(x0, .inr (0, [.ref aS, .ref aT, .ref aK, .ref aG, .ref aP, .ref aL, .int nm])), (aK, .inr (3, [.ref bK1, .ref bK2, .int sb, .long cam, .long gma])), (bK2, .inl (cI, 3, .inl rt))] sz)) (va_A [(x0, .inr (0, [.ref aS, .ref aT, .ref aK, .ref aG, .ref aP, .ref aL, .int nm])), (aK, .inr (3, [.ref bK1, .ref bK2, .int sb, .long cam, .long gma])), (bK2, .inl (cI, 3, .inl rt))] sz)) 0 0 (va_A [(x0, .inr (0, [.ref aS, .ref aT, .ref aK, .ref aG, .ref aP, .ref aL, .int nm])), (aK, .inr (3, [.ref bK1, .ref bK2, .int sb, .long cam, .long gma])), (bK2, .inl (cI, 3, .inl rt))] sz) := by
  refine Met.ofW (cc := b_DR_rate) (maxL := 3) (ret := (some .boolean)) (by decide) rfl ?_
  intro p e s m args below meth c s₁ B hml hv
  obtain ⟨rfl, hsz, hP, hK, hN, hD0⟩ := hv
  have hx := B.exec
  have hb := B.bytes
  have hr := B.returns
  have hts := atoms_spec (ws := w_DR_rate) B.pre
  have hown : s.vm.findClass R_DR = some m.cls := findClass_of_methodNamed B.named
  have hlocks := B.notSynchronized
  have hwg : ∀ w ∈ wg, w.before ([.ref x0, .int p1, .int p2] : List Value).toArray s = true := fun w h => hts w (List.mem_cons_of_mem _ h)
  subst hsz
  have hD := hD0.self (sz := s.heap.size)
  generalize hAe : va_A [(x0, .inr (0, [.ref aS, .ref aT, .ref aK, .ref aG, .ref aP, .ref aL, .int nm])), (aK, .inr (3, [.ref bK1, .ref bK2, .int sb, .long cam, .long gma])), (bK2, .inl (cI, 3, .inl rt))] s.heap.size = A at hD ⊢
  have hA : ∀ q : Nat, s.heap.size ≤ q → A q := fun q h => by rw [← hAe]; exact Or.inr h
  have hS : va_S A s.heap s.heap [] := va_S.rf
  have hP : va_P (dC, dI) vwCl [(x0, .inr (0, [.ref aS, .ref aT, .ref aK, .ref aG, .ref aP, .ref aL, .int nm])), (aK, .inr (3, [.ref bK1, .ref bK2, .int sb, .long cam, .long gma])), (bK2, .inl (cI, 3, .inl rt))] s.heap := hP
  have hl := lv_entry ([.ref x0, .int p1, .int p2]) (n := 3) (Nat.le_of_ble_eq_true rfl)
  rw [lg_entry_eq]
  generalize (lg_sl ([.ref x0, .int p1, .int p2]) ++ List.replicate (3 - (lg_sl ([.ref x0, .int p1, .int p2])).length) Slot.unset).toArray = ls at hl ⊢
  have hl : lv_has ls 3 [(0, .ref x0), (1, .int p1), (2, .int p2)] := hl
  refine lv_iload_n hx hb d_DR_rate_0 rfl (lv_at hl 1 rfl) ?_
  refine lv_iconst (v := 0) hx hb d_DR_rate_1 (by decide) ?_
  refine lv_iconst (v := 2) hx hb d_DR_rate_2 (by decide) ?_
  have hPc := hP.sub (ws' := []) [] rfl
  have hDc := hD.sub (ws' := []) [] (by decide) rfl
  refine k_calli hP hD hS hA [] [0, 1, 2] (wc := []) (wr := [(x0, .inr (0, [.ref aS, .ref aT, .ref aK, .ref aG, .ref aP, .ref aL, .int nm])), (aK, .inr (3, [.ref bK1, .ref bK2, .int sb, .long cam, .long gma])), (bK2, .inl (cI, 3, .inl rt))]) rfl rfl (by decide) (by decide) (va_runS (As := [.int p1, .int 0, .int 2]) (rest := []) ⟨hx, hb, hml, hown, hwg⟩ (c_DR_within l dC dI cI cL cZ s.heap.size p1 0 2) (va_cwS 3 hwg (g_S kw_106 kw_107 kw_14 kw_108) rfl rfl rfl (by decide +kernel) ⟨Nat.le_of_ble_eq_true rfl, Nat.le_of_ble_eq_true rfl⟩) ⟨c_pre_call, c_pre_mk hPc hDc hK hN _⟩ rfl rfl hl.1 rfl (lv_room (Nat.le_of_ble_eq_true rfl)) d_DR_rate_3 ⟨Nat.le_of_ble_eq_true rfl, Nat.le_of_ble_eq_true rfl⟩) (fun r3 u H3 locs w3 hz1 hP hD hS => ?_)
  have hP := hP.sub (ws' := [(x0, .inr (0, [.ref aS, .ref aT, .ref aK, .ref aG, .ref aP, .ref aL, .int nm])), (aK, .inr (3, [.ref bK1, .ref bK2, .int sb, .long cam, .long gma])), (bK2, .inl (cI, 3, .inl rt))]) [0, 1, 2] rfl
  have hD := hD.sub (ws' := [(x0, .inr (0, [.ref aS, .ref aT, .ref aK, .ref aG, .ref aP, .ref aL, .int nm])), (aK, .inr (3, [.ref bK1, .ref bK2, .int sb, .long cam, .long gma])), (bK2, .inl (cI, 3, .inl rt))]) [0, 1, 2] (by decide) rfl
  refine lv_if_eq (tgt := 19) hx hb d_DR_rate_6 (by decide) (fun (c6 : r3 = 0) => ?_) (fun (c6 : ¬ (r3 = 0)) => ?_)
  · refine lv_iconst (v := 0) hx hb d_DR_rate_19 (by decide) ?_
    have hP9 := hP.sub (ws' := [(x0, .inr (0, [.ref aS, .ref aT, .ref aK, .ref aG, .ref aP, .ref aL, .int nm])), (aK, .inr (3, [.ref bK1, .ref bK2, .int sb, .long cam, .long gma])), (bK2, .inl (cI, 3, .inl rt))]) [0, 1, 2] rfl
    have hD9 := hD.sub (ws' := [(x0, .inr (0, [.ref aS, .ref aT, .ref aK, .ref aG, .ref aP, .ref aL, .int nm])), (aK, .inr (3, [.ref bK1, .ref bK2, .int sb, .long cam, .long gma])), (bK2, .inl (cI, 3, .inl rt))]) [0, 1, 2] (by decide) rfl
    exact W.zret (ty := .boolean) (v := 0) hx hb hr rfl (fun t ht hW => ⟨⟨0, (rt), rfl, by simp only [f_DR_rate, w3, if_pos c6], by rw [ht]; exact hP9, hD9⟩, hS.F ht⟩) hS.2.2 d_DR_rate_20
  · refine lv_iload_n hx hb d_DR_rate_9 rfl (lv_at hl 2 rfl) ?_
    refine lv_iconst (v := 0) hx hb d_DR_rate_10 (by decide) ?_
    refine lv_ldc hx hb hown (hwg _ kw_124) d_DR_rate_11 ?_
    have hPc := hP.sub (ws' := []) [] rfl
    have hDc := hD.sub (ws' := []) [] (by decide) rfl
    refine k_calli hP hD hS hA [] [0, 1, 2] (wc := []) (wr := [(x0, .inr (0, [.ref aS, .ref aT, .ref aK, .ref aG, .ref aP, .ref aL, .int nm])), (aK, .inr (3, [.ref bK1, .ref bK2, .int sb, .long cam, .long gma])), (bK2, .inl (cI, 3, .inl rt))]) rfl rfl (by decide) (by decide) (va_runS (As := [.int p2, .int 0, .int 1000000]) (rest := []) ⟨hx, hb, hml, hown, hwg⟩ (c_DR_within l dC dI cI cL cZ H3.size p2 0 1000000) (va_cwS 3 hwg (g_S kw_106 kw_107 kw_14 kw_108) rfl rfl rfl (by decide +kernel) ⟨Nat.le_of_ble_eq_true rfl, Nat.le_of_ble_eq_true rfl⟩) ⟨c_pre_call, c_pre_mk hPc hDc hK hN _⟩ rfl rfl hl.1 rfl (lv_room (Nat.le_of_ble_eq_true rfl)) d_DR_rate_13 ⟨Nat.le_of_ble_eq_true rfl, Nat.le_of_ble_eq_true rfl⟩) (fun r13 u H13 locs w13 hz1 hP hD hS => ?_)
    have hP := hP.sub (ws' := [(x0, .inr (0, [.ref aS, .ref aT, .ref aK, .ref aG, .ref aP, .ref aL, .int nm])), (aK, .inr (3, [.ref bK1, .ref bK2, .int sb, .long cam, .long gma])), (bK2, .inl (cI, 3, .inl rt))]) [0, 1, 2] rfl
    have hD := hD.sub (ws' := [(x0, .inr (0, [.ref aS, .ref aT, .ref aK, .ref aG, .ref aP, .ref aL, .int nm])), (aK, .inr (3, [.ref bK1, .ref bK2, .int sb, .long cam, .long gma])), (bK2, .inl (cI, 3, .inl rt))]) [0, 1, 2] (by decide) rfl
    refine lv_if_ne (tgt := 21) hx hb d_DR_rate_16 (by decide) (fun (c16 : ¬ (r13 = 0)) => ?_) (fun (c16 : r13 = 0) => ?_)
    · refine lv_aload_n hx hb d_DR_rate_21 rfl (lv_at hl 0 rfl) ?_
      refine va_get (D := (dC, dI)) (ci := 0) (v := .ref aK) (C := R_DR) (T := F_DR) (N := 7) hx hb hwg iu_DR hown hK hP 0 rfl rfl 2 (by decide) (hwg _ kw_94) (fun _ h9 => h9) rfl d_DR_rate_22 ?_
      refine va_getN (D := (dC, dI)) (ci := 3) (v := .ref bK2) (C := R_Tank) (T := F_Tank) (N := 5) hx hb hwg iu_Tank hown hK hP 1 rfl rfl 1 (by decide) (va_Nw.use rfl (hN _ nk_8)) (fun _ h9 => h9) rfl d_DR_rate_25 ?_
      refine lv_iload_n hx hb d_DR_rate_28 rfl (lv_at hl 1 rfl) ?_
      refine lv_iload_n hx hb d_DR_rate_29 rfl (lv_at hl 2 rfl) ?_
      refine va_iast hx hb hK hP hD hS 2 0 rfl rfl (in_w2 w3 c6) d_DR_rate_30 (fun H30 locs hP hD hS => ?_)
      have hP : va_P (dC, dI) vwCl [(x0, .inr (0, [.ref aS, .ref aT, .ref aK, .ref aG, .ref aP, .ref aL, .int nm])), (aK, .inr (3, [.ref bK1, .ref bK2, .int sb, .long cam, .long gma])), (bK2, .inl (cI, 3, .inl (upd rt (Int32.toNatClampNeg p1) p2)))] H30 := hP
      have hD : va_D A [(x0, .inr (0, [.ref aS, .ref aT, .ref aK, .ref aG, .ref aP, .ref aL, .int nm])), (aK, .inr (3, [.ref bK1, .ref bK2, .int sb, .long cam, .long gma])), (bK2, .inl (cI, 3, .inl (upd rt (Int32.toNatClampNeg p1) p2)))] := hD
      refine lv_iconst (v := 1) hx hb d_DR_rate_31 (by decide) ?_
      have hP9 := hP.sub (ws' := [(x0, .inr (0, [.ref aS, .ref aT, .ref aK, .ref aG, .ref aP, .ref aL, .int nm])), (aK, .inr (3, [.ref bK1, .ref bK2, .int sb, .long cam, .long gma])), (bK2, .inl (cI, 3, .inl (upd rt (Int32.toNatClampNeg p1) p2)))]) [0, 1, 2] rfl
      have hD9 := hD.sub (ws' := [(x0, .inr (0, [.ref aS, .ref aT, .ref aK, .ref aG, .ref aP, .ref aL, .int nm])), (aK, .inr (3, [.ref bK1, .ref bK2, .int sb, .long cam, .long gma])), (bK2, .inl (cI, 3, .inl (upd rt (Int32.toNatClampNeg p1) p2)))]) [0, 1, 2] (by decide) rfl
      exact W.zret (ty := .boolean) (v := 1) hx hb hr rfl (fun t ht hW => ⟨⟨1, (upd rt (Int32.toNatClampNeg p1) p2), rfl, by simp only [f_DR_rate, w3, if_neg c6, w13, if_neg c16], by rw [ht]; exact hP9, hD9⟩, hS.F ht⟩) hS.2.2 d_DR_rate_32
    · refine lv_iconst (v := 0) hx hb d_DR_rate_19 (by decide) ?_
      have hP9 := hP.sub (ws' := [(x0, .inr (0, [.ref aS, .ref aT, .ref aK, .ref aG, .ref aP, .ref aL, .int nm])), (aK, .inr (3, [.ref bK1, .ref bK2, .int sb, .long cam, .long gma])), (bK2, .inl (cI, 3, .inl rt))]) [0, 1, 2] rfl
      have hD9 := hD.sub (ws' := [(x0, .inr (0, [.ref aS, .ref aT, .ref aK, .ref aG, .ref aP, .ref aL, .int nm])), (aK, .inr (3, [.ref bK1, .ref bK2, .int sb, .long cam, .long gma])), (bK2, .inl (cI, 3, .inl rt))]) [0, 1, 2] (by decide) rfl
      exact W.zret (ty := .boolean) (v := 0) hx hb hr rfl (fun t ht hW => ⟨⟨0, (rt), rfl, by simp only [f_DR_rate, w3, if_neg c6, w13, if_pos c16], by rw [ht]; exact hP9, hD9⟩, hS.F ht⟩) hS.2.2 d_DR_rate_20
def f_DR_bound (sb : Int32) (p1 : Int32) : Int32 × Int32 := let r4 := f_DR_within p1 1 1000000000; if r4 = 0 then ((0, sb)) else ((1, p1))
abbrev rm_DR_bound : Room := { frames := 1, cells := 0, slots := 0, locals := 22 }
set_option maxHeartbeats 4000000 in
set_option maxRecDepth 100000 in
theorem c_DR_bound (l : Launch) (dC : Nat → ClassId) (dI : Nat → Nat → Nat) (cI cL cZ : ClassId) (x0 aS aT aK aG aP aL bK1 bK2 : Nat) (sz : Nat) (nm : Int32) (sb : Int32) (cam : Int64) (gma : Int64) (p1 : Int32) : Met l y_DR_bound w_DR_bound rm_DR_bound (va_Pc [.ref x0, .int p1] (c_pre dC dI cI cL cZ [(x0, .inr (0, [.ref aS, .ref aT, .ref aK, .ref aG, .ref aP, .ref aL, .int nm])), (aK, .inr (3, [.ref bK1, .ref bK2, .int sb, .long cam, .long gma]))] sz)) (va_Qi (fun (r : Int32) (u : Int32) => f_DR_bound sb p1 = (r, u)) (c_post dC dI (fun (u : Int32) => [(x0, .inr (0, [.ref aS, .ref aT, .ref aK, .ref aG, .ref aP, .ref aL, .int nm])), (aK, .inr (3, [.ref bK1, .ref bK2, .int u, .long cam, .long gma]))]) (va_A [(x0, .inr (0, [.ref aS, .ref aT, .ref aK, .ref aG, .ref aP, .ref aL, .int nm])), (aK, .inr (3, [.ref bK1, .ref bK2, .int sb, .long cam, .long gma]))] sz)) (va_A [(x0, .inr (0, [.ref aS, .ref aT, .ref aK, .ref aG, .ref aP, .ref aL, .int nm])), (aK, .inr (3, [.ref bK1, .ref bK2, .int sb, .long cam, .long gma]))] sz)) 0 0 (va_A [(x0, .inr (0, [.ref aS, .ref aT, .ref aK, .ref aG, .ref aP, .ref aL, .int nm])), (aK, .inr (3, [.ref bK1, .ref bK2, .int sb, .long cam, .long gma]))] sz) := by
  refine Met.ofW (cc := b_DR_bound) (maxL := 2) (ret := (some .boolean)) (by decide) rfl ?_
  intro p e s m args below meth c s₁ B hml hv
  obtain ⟨rfl, hsz, hP, hK, hN, hD0⟩ := hv
  have hx := B.exec
  have hb := B.bytes
  have hr := B.returns
  have hts := atoms_spec (ws := w_DR_bound) B.pre
  have hown : s.vm.findClass R_DR = some m.cls := findClass_of_methodNamed B.named
  have hlocks := B.notSynchronized
  have hwg : ∀ w ∈ wg, w.before ([.ref x0, .int p1] : List Value).toArray s = true := fun w h => hts w (List.mem_cons_of_mem _ h)
  subst hsz
  have hD := hD0.self (sz := s.heap.size)
  generalize hAe : va_A [(x0, .inr (0, [.ref aS, .ref aT, .ref aK, .ref aG, .ref aP, .ref aL, .int nm])), (aK, .inr (3, [.ref bK1, .ref bK2, .int sb, .long cam, .long gma]))] s.heap.size = A at hD ⊢
  have hA : ∀ q : Nat, s.heap.size ≤ q → A q := fun q h => by rw [← hAe]; exact Or.inr h
  have hS : va_S A s.heap s.heap [] := va_S.rf
  have hP : va_P (dC, dI) vwCl [(x0, .inr (0, [.ref aS, .ref aT, .ref aK, .ref aG, .ref aP, .ref aL, .int nm])), (aK, .inr (3, [.ref bK1, .ref bK2, .int sb, .long cam, .long gma]))] s.heap := hP
  have hl := lv_entry ([.ref x0, .int p1]) (n := 2) (Nat.le_of_ble_eq_true rfl)
  rw [lg_entry_eq]
  generalize (lg_sl ([.ref x0, .int p1]) ++ List.replicate (2 - (lg_sl ([.ref x0, .int p1])).length) Slot.unset).toArray = ls at hl ⊢
  have hl : lv_has ls 2 [(0, .ref x0), (1, .int p1)] := hl
  refine lv_iload_n hx hb d_DR_bound_0 rfl (lv_at hl 1 rfl) ?_
  refine lv_iconst (v := 1) hx hb d_DR_bound_1 (by decide) ?_
  refine lv_ldc hx hb hown (hwg _ kw_152) d_DR_bound_2 ?_
  have hPc := hP.sub (ws' := []) [] rfl
  have hDc := hD.sub (ws' := []) [] (by decide) rfl
  refine k_calli hP hD hS hA [] [0, 1] (wc := []) (wr := [(x0, .inr (0, [.ref aS, .ref aT, .ref aK, .ref aG, .ref aP, .ref aL, .int nm])), (aK, .inr (3, [.ref bK1, .ref bK2, .int sb, .long cam, .long gma]))]) rfl rfl (by decide) (by decide) (va_runS (As := [.int p1, .int 1, .int 1000000000]) (rest := []) ⟨hx, hb, hml, hown, hwg⟩ (c_DR_within l dC dI cI cL cZ s.heap.size p1 1 1000000000) (va_cwS 3 hwg (g_S kw_106 kw_107 kw_14 kw_108) rfl rfl rfl (by decide +kernel) ⟨Nat.le_of_ble_eq_true rfl, Nat.le_of_ble_eq_true rfl⟩) ⟨c_pre_call, c_pre_mk hPc hDc hK hN _⟩ rfl rfl hl.1 rfl (lv_room (Nat.le_of_ble_eq_true rfl)) d_DR_bound_4 ⟨Nat.le_of_ble_eq_true rfl, Nat.le_of_ble_eq_true rfl⟩) (fun r4 u H4 locs w4 hz1 hP hD hS => ?_)
  have hP := hP.sub (ws' := [(x0, .inr (0, [.ref aS, .ref aT, .ref aK, .ref aG, .ref aP, .ref aL, .int nm])), (aK, .inr (3, [.ref bK1, .ref bK2, .int sb, .long cam, .long gma]))]) [0, 1] rfl
  have hD := hD.sub (ws' := [(x0, .inr (0, [.ref aS, .ref aT, .ref aK, .ref aG, .ref aP, .ref aL, .int nm])), (aK, .inr (3, [.ref bK1, .ref bK2, .int sb, .long cam, .long gma]))]) [0, 1] (by decide) rfl
  refine lv_if_ne (tgt := 12) hx hb d_DR_bound_7 (by decide) (fun (c7 : ¬ (r4 = 0)) => ?_) (fun (c7 : r4 = 0) => ?_)
  · refine lv_aload_n hx hb d_DR_bound_12 rfl (lv_at hl 0 rfl) ?_
    refine va_get (D := (dC, dI)) (ci := 0) (v := .ref aK) (C := R_DR) (T := F_DR) (N := 7) hx hb hwg iu_DR hown hK hP 0 rfl rfl 2 (by decide) (hwg _ kw_94) (fun _ h9 => h9) rfl d_DR_bound_13 ?_
    refine lv_iload_n hx hb d_DR_bound_16 rfl (lv_at hl 1 rfl) ?_
    refine va_putN (D := (dC, dI)) (ci := 3) (v := .int p1) (ty := .int) (C := R_Tank) (T := F_Tank) (N := 5) hx hb hwg iu_Tank t_Tank t_Tank_ok n_Tank hown hK hP hD hS 1 rfl rfl 2 (by decide) (va_Nw.use rfl (hN _ nk_9)) (fun _ h9 => h9) rfl (by decide +kernel) rfl rfl (Nat.le_of_ble_eq_true rfl) d_DR_bound_17 (fun H17 locs hP hD hS => ?_)
    have hP : va_P (dC, dI) vwCl [(x0, .inr (0, [.ref aS, .ref aT, .ref aK, .ref aG, .ref aP, .ref aL, .int nm])), (aK, .inr (3, [.ref bK1, .ref bK2, .int p1, .long cam, .long gma]))] H17 := hP
    have hD : va_D A [(x0, .inr (0, [.ref aS, .ref aT, .ref aK, .ref aG, .ref aP, .ref aL, .int nm])), (aK, .inr (3, [.ref bK1, .ref bK2, .int p1, .long cam, .long gma]))] := hD
    refine lv_iconst (v := 1) hx hb d_DR_bound_20 (by decide) ?_
    have hP9 := hP.sub (ws' := [(x0, .inr (0, [.ref aS, .ref aT, .ref aK, .ref aG, .ref aP, .ref aL, .int nm])), (aK, .inr (3, [.ref bK1, .ref bK2, .int p1, .long cam, .long gma]))]) [0, 1] rfl
    have hD9 := hD.sub (ws' := [(x0, .inr (0, [.ref aS, .ref aT, .ref aK, .ref aG, .ref aP, .ref aL, .int nm])), (aK, .inr (3, [.ref bK1, .ref bK2, .int p1, .long cam, .long gma]))]) [0, 1] (by decide) rfl
    exact W.zret (ty := .boolean) (v := 1) hx hb hr rfl (fun t ht hW => ⟨⟨1, (p1), rfl, by simp only [f_DR_bound, w4, if_neg c7], by rw [ht]; exact hP9, hD9⟩, hS.F ht⟩) hS.2.2 d_DR_bound_21
  · refine lv_iconst (v := 0) hx hb d_DR_bound_10 (by decide) ?_
    have hP9 := hP.sub (ws' := [(x0, .inr (0, [.ref aS, .ref aT, .ref aK, .ref aG, .ref aP, .ref aL, .int nm])), (aK, .inr (3, [.ref bK1, .ref bK2, .int sb, .long cam, .long gma]))]) [0, 1] rfl
    have hD9 := hD.sub (ws' := [(x0, .inr (0, [.ref aS, .ref aT, .ref aK, .ref aG, .ref aP, .ref aL, .int nm])), (aK, .inr (3, [.ref bK1, .ref bK2, .int sb, .long cam, .long gma]))]) [0, 1] (by decide) rfl
    exact W.zret (ty := .boolean) (v := 0) hx hb hr rfl (fun t ht hW => ⟨⟨0, (sb), rfl, by simp only [f_DR_bound, w4, if_pos c7], by rw [ht]; exact hP9, hD9⟩, hS.F ht⟩) hS.2.2 d_DR_bound_11
def f_DR_room (mo : Int32) (p1 : Int32) : Int32 × Int32 := let r4 := f_DR_within p1 0 1000000000; if r4 = 0 then ((0, mo)) else ((1, p1))
abbrev rm_DR_room : Room := { frames := 1, cells := 0, slots := 0, locals := 22 }
set_option maxHeartbeats 4000000 in
set_option maxRecDepth 100000 in
theorem c_DR_room (l : Launch) (dC : Nat → ClassId) (dI : Nat → Nat → Nat) (cI cL cZ : ClassId) (x0 aS aT aK aG aP aL bG1 bG2 bG3 bG4 : Nat) (sz : Nat) (nm : Int32) (us : Int32) (mo : Int32) (he : Int64) (gi : Int64) (fl : Int64) (p1 : Int32) : Met l y_DR_room w_DR_room rm_DR_room (va_Pc [.ref x0, .int p1] (c_pre dC dI cI cL cZ [(x0, .inr (0, [.ref aS, .ref aT, .ref aK, .ref aG, .ref aP, .ref aL, .int nm])), (aG, .inr (4, [.ref bG1, .ref bG2, .ref bG3, .ref bG4, .int us, .int mo, .long he, .long gi, .long fl]))] sz)) (va_Qi (fun (r : Int32) (u : Int32) => f_DR_room mo p1 = (r, u)) (c_post dC dI (fun (u : Int32) => [(x0, .inr (0, [.ref aS, .ref aT, .ref aK, .ref aG, .ref aP, .ref aL, .int nm])), (aG, .inr (4, [.ref bG1, .ref bG2, .ref bG3, .ref bG4, .int us, .int u, .long he, .long gi, .long fl]))]) (va_A [(x0, .inr (0, [.ref aS, .ref aT, .ref aK, .ref aG, .ref aP, .ref aL, .int nm])), (aG, .inr (4, [.ref bG1, .ref bG2, .ref bG3, .ref bG4, .int us, .int mo, .long he, .long gi, .long fl]))] sz)) (va_A [(x0, .inr (0, [.ref aS, .ref aT, .ref aK, .ref aG, .ref aP, .ref aL, .int nm])), (aG, .inr (4, [.ref bG1, .ref bG2, .ref bG3, .ref bG4, .int us, .int mo, .long he, .long gi, .long fl]))] sz)) 0 0 (va_A [(x0, .inr (0, [.ref aS, .ref aT, .ref aK, .ref aG, .ref aP, .ref aL, .int nm])), (aG, .inr (4, [.ref bG1, .ref bG2, .ref bG3, .ref bG4, .int us, .int mo, .long he, .long gi, .long fl]))] sz) := by
  refine Met.ofW (cc := b_DR_room) (maxL := 2) (ret := (some .boolean)) (by decide) rfl ?_
  intro p e s m args below meth c s₁ B hml hv
  obtain ⟨rfl, hsz, hP, hK, hN, hD0⟩ := hv
  have hx := B.exec
  have hb := B.bytes
  have hr := B.returns
  have hts := atoms_spec (ws := w_DR_room) B.pre
  have hown : s.vm.findClass R_DR = some m.cls := findClass_of_methodNamed B.named
  have hlocks := B.notSynchronized
  have hwg : ∀ w ∈ wg, w.before ([.ref x0, .int p1] : List Value).toArray s = true := fun w h => hts w (List.mem_cons_of_mem _ h)
  subst hsz
  have hD := hD0.self (sz := s.heap.size)
  generalize hAe : va_A [(x0, .inr (0, [.ref aS, .ref aT, .ref aK, .ref aG, .ref aP, .ref aL, .int nm])), (aG, .inr (4, [.ref bG1, .ref bG2, .ref bG3, .ref bG4, .int us, .int mo, .long he, .long gi, .long fl]))] s.heap.size = A at hD ⊢
  have hA : ∀ q : Nat, s.heap.size ≤ q → A q := fun q h => by rw [← hAe]; exact Or.inr h
  have hS : va_S A s.heap s.heap [] := va_S.rf
  have hP : va_P (dC, dI) vwCl [(x0, .inr (0, [.ref aS, .ref aT, .ref aK, .ref aG, .ref aP, .ref aL, .int nm])), (aG, .inr (4, [.ref bG1, .ref bG2, .ref bG3, .ref bG4, .int us, .int mo, .long he, .long gi, .long fl]))] s.heap := hP
  have hl := lv_entry ([.ref x0, .int p1]) (n := 2) (Nat.le_of_ble_eq_true rfl)
  rw [lg_entry_eq]
  generalize (lg_sl ([.ref x0, .int p1]) ++ List.replicate (2 - (lg_sl ([.ref x0, .int p1])).length) Slot.unset).toArray = ls at hl ⊢
  have hl : lv_has ls 2 [(0, .ref x0), (1, .int p1)] := hl
  refine lv_iload_n hx hb d_DR_room_0 rfl (lv_at hl 1 rfl) ?_
  refine lv_iconst (v := 0) hx hb d_DR_room_1 (by decide) ?_
  refine lv_ldc hx hb hown (hwg _ kw_152) d_DR_room_2 ?_
  have hPc := hP.sub (ws' := []) [] rfl
  have hDc := hD.sub (ws' := []) [] (by decide) rfl
  refine k_calli hP hD hS hA [] [0, 1] (wc := []) (wr := [(x0, .inr (0, [.ref aS, .ref aT, .ref aK, .ref aG, .ref aP, .ref aL, .int nm])), (aG, .inr (4, [.ref bG1, .ref bG2, .ref bG3, .ref bG4, .int us, .int mo, .long he, .long gi, .long fl]))]) rfl rfl (by decide) (by decide) (va_runS (As := [.int p1, .int 0, .int 1000000000]) (rest := []) ⟨hx, hb, hml, hown, hwg⟩ (c_DR_within l dC dI cI cL cZ s.heap.size p1 0 1000000000) (va_cwS 3 hwg (g_S kw_106 kw_107 kw_14 kw_108) rfl rfl rfl (by decide +kernel) ⟨Nat.le_of_ble_eq_true rfl, Nat.le_of_ble_eq_true rfl⟩) ⟨c_pre_call, c_pre_mk hPc hDc hK hN _⟩ rfl rfl hl.1 rfl (lv_room (Nat.le_of_ble_eq_true rfl)) d_DR_room_4 ⟨Nat.le_of_ble_eq_true rfl, Nat.le_of_ble_eq_true rfl⟩) (fun r4 u H4 locs w4 hz1 hP hD hS => ?_)
  have hP := hP.sub (ws' := [(x0, .inr (0, [.ref aS, .ref aT, .ref aK, .ref aG, .ref aP, .ref aL, .int nm])), (aG, .inr (4, [.ref bG1, .ref bG2, .ref bG3, .ref bG4, .int us, .int mo, .long he, .long gi, .long fl]))]) [0, 1] rfl
  have hD := hD.sub (ws' := [(x0, .inr (0, [.ref aS, .ref aT, .ref aK, .ref aG, .ref aP, .ref aL, .int nm])), (aG, .inr (4, [.ref bG1, .ref bG2, .ref bG3, .ref bG4, .int us, .int mo, .long he, .long gi, .long fl]))]) [0, 1] (by decide) rfl
  refine lv_if_ne (tgt := 12) hx hb d_DR_room_7 (by decide) (fun (c7 : ¬ (r4 = 0)) => ?_) (fun (c7 : r4 = 0) => ?_)
  · refine lv_aload_n hx hb d_DR_room_12 rfl (lv_at hl 0 rfl) ?_
    refine va_get (D := (dC, dI)) (ci := 0) (v := .ref aG) (C := R_DR) (T := F_DR) (N := 7) hx hb hwg iu_DR hown hK hP 0 rfl rfl 3 (by decide) (hwg _ kw_95) (fun _ h9 => h9) rfl d_DR_room_13 ?_
    refine lv_iload_n hx hb d_DR_room_16 rfl (lv_at hl 1 rfl) ?_
    refine va_putN (D := (dC, dI)) (ci := 4) (v := .int p1) (ty := .int) (C := R_GasStore) (T := F_GasStore) (N := 9) hx hb hwg iu_GasStore t_GasStore t_GasStore_ok n_GasStore hown hK hP hD hS 1 rfl rfl 5 (by decide) (va_Nw.use rfl (hN _ nk_15)) (fun _ h9 => h9) rfl (by decide +kernel) rfl rfl (Nat.le_of_ble_eq_true rfl) d_DR_room_17 (fun H17 locs hP hD hS => ?_)
    have hP : va_P (dC, dI) vwCl [(x0, .inr (0, [.ref aS, .ref aT, .ref aK, .ref aG, .ref aP, .ref aL, .int nm])), (aG, .inr (4, [.ref bG1, .ref bG2, .ref bG3, .ref bG4, .int us, .int p1, .long he, .long gi, .long fl]))] H17 := hP
    have hD : va_D A [(x0, .inr (0, [.ref aS, .ref aT, .ref aK, .ref aG, .ref aP, .ref aL, .int nm])), (aG, .inr (4, [.ref bG1, .ref bG2, .ref bG3, .ref bG4, .int us, .int p1, .long he, .long gi, .long fl]))] := hD
    refine lv_iconst (v := 1) hx hb d_DR_room_20 (by decide) ?_
    have hP9 := hP.sub (ws' := [(x0, .inr (0, [.ref aS, .ref aT, .ref aK, .ref aG, .ref aP, .ref aL, .int nm])), (aG, .inr (4, [.ref bG1, .ref bG2, .ref bG3, .ref bG4, .int us, .int p1, .long he, .long gi, .long fl]))]) [0, 1] rfl
    have hD9 := hD.sub (ws' := [(x0, .inr (0, [.ref aS, .ref aT, .ref aK, .ref aG, .ref aP, .ref aL, .int nm])), (aG, .inr (4, [.ref bG1, .ref bG2, .ref bG3, .ref bG4, .int us, .int p1, .long he, .long gi, .long fl]))]) [0, 1] (by decide) rfl
    exact W.zret (ty := .boolean) (v := 1) hx hb hr rfl (fun t ht hW => ⟨⟨1, (p1), rfl, by simp only [f_DR_room, w4, if_neg c7], by rw [ht]; exact hP9, hD9⟩, hS.F ht⟩) hS.2.2 d_DR_room_21
  · refine lv_iconst (v := 0) hx hb d_DR_room_10 (by decide) ?_
    have hP9 := hP.sub (ws' := [(x0, .inr (0, [.ref aS, .ref aT, .ref aK, .ref aG, .ref aP, .ref aL, .int nm])), (aG, .inr (4, [.ref bG1, .ref bG2, .ref bG3, .ref bG4, .int us, .int mo, .long he, .long gi, .long fl]))]) [0, 1] rfl
    have hD9 := hD.sub (ws' := [(x0, .inr (0, [.ref aS, .ref aT, .ref aK, .ref aG, .ref aP, .ref aL, .int nm])), (aG, .inr (4, [.ref bG1, .ref bG2, .ref bG3, .ref bG4, .int us, .int mo, .long he, .long gi, .long fl]))]) [0, 1] (by decide) rfl
    exact W.zret (ty := .boolean) (v := 0) hx hb hr rfl (fun t ht hW => ⟨⟨0, (mo), rfl, by simp only [f_DR_room, w4, if_pos c7], by rw [ht]; exact hP9, hD9⟩, hS.F ht⟩) hS.2.2 d_DR_room_11
def f_DR_rank (us : Int32) (rk : Nat → Int32) (nd : Nat → Int32) (od : Nat → Int32) (p1 : Int32) (p2 : Int32) : Int32 × Int32 × (Nat → Int32) × (Nat → Int32) × (Nat → Int32) := let r4 := f_DR_within p1 0 9; if r4 = 0 then (((-1), us, rk, nd, od)) else (let r14 := f_DR_within p2 0 1000000; if r14 = 0 then (((-1), us, rk, nd, od)) else (match f_GasStore_addUser us rk nd od p1 p2 with | (r28, us_28, rk_28, nd_28, od_28) => (r28, us_28, rk_28, nd_28, od_28)))
abbrev rm_DR_rank : Room := { frames := 1, cells := 0, slots := 0, locals := 24 }
set_option maxHeartbeats 4000000 in
set_option maxRecDepth 100000 in
theorem c_DR_rank (l : Launch) (dC : Nat → ClassId) (dI : Nat → Nat → Nat) (cI cL cZ : ClassId) (x0 aS aT aK aG aP aL bG1 bG2 bG3 bG4 : Nat) (sz : Nat) (nm : Int32) (us : Int32) (mo : Int32) (he : Int64) (gi : Int64) (fl : Int64) (rk : Nat → Int32) (nd : Nat → Int32) (od : Nat → Int32) (p1 : Int32) (p2 : Int32) (hus : vp_in us 5) (hod : ∀ i, i < 4 → vp_in (od i) 4) : Met l y_DR_rank w_DR_rank rm_DR_rank (va_Pc [.ref x0, .int p1, .int p2] (c_pre dC dI cI cL cZ [(x0, .inr (0, [.ref aS, .ref aT, .ref aK, .ref aG, .ref aP, .ref aL, .int nm])), (aG, .inr (4, [.ref bG1, .ref bG2, .ref bG3, .ref bG4, .int us, .int mo, .long he, .long gi, .long fl])), (bG1, .inl (cI, 4, .inl rk)), (bG2, .inl (cI, 4, .inl nd)), (bG4, .inl (cI, 4, .inl od))] sz)) (va_Qi (fun (r : Int32) (u : Int32 × (Nat → Int32) × (Nat → Int32) × (Nat → Int32)) => f_DR_rank us rk nd od p1 p2 = (r, u)) (c_post dC dI (fun (u : Int32 × (Nat → Int32) × (Nat → Int32) × (Nat → Int32)) => [(x0, .inr (0, [.ref aS, .ref aT, .ref aK, .ref aG, .ref aP, .ref aL, .int nm])), (aG, .inr (4, [.ref bG1, .ref bG2, .ref bG3, .ref bG4, .int u.1, .int mo, .long he, .long gi, .long fl])), (bG1, .inl (cI, 4, .inl u.2.1)), (bG2, .inl (cI, 4, .inl u.2.2.1)), (bG4, .inl (cI, 4, .inl u.2.2.2))]) (va_A [(x0, .inr (0, [.ref aS, .ref aT, .ref aK, .ref aG, .ref aP, .ref aL, .int nm])), (aG, .inr (4, [.ref bG1, .ref bG2, .ref bG3, .ref bG4, .int us, .int mo, .long he, .long gi, .long fl])), (bG1, .inl (cI, 4, .inl rk)), (bG2, .inl (cI, 4, .inl nd)), (bG4, .inl (cI, 4, .inl od))] sz)) (va_A [(x0, .inr (0, [.ref aS, .ref aT, .ref aK, .ref aG, .ref aP, .ref aL, .int nm])), (aG, .inr (4, [.ref bG1, .ref bG2, .ref bG3, .ref bG4, .int us, .int mo, .long he, .long gi, .long fl])), (bG1, .inl (cI, 4, .inl rk)), (bG2, .inl (cI, 4, .inl nd)), (bG4, .inl (cI, 4, .inl od))] sz)) 0 0 (va_A [(x0, .inr (0, [.ref aS, .ref aT, .ref aK, .ref aG, .ref aP, .ref aL, .int nm])), (aG, .inr (4, [.ref bG1, .ref bG2, .ref bG3, .ref bG4, .int us, .int mo, .long he, .long gi, .long fl])), (bG1, .inl (cI, 4, .inl rk)), (bG2, .inl (cI, 4, .inl nd)), (bG4, .inl (cI, 4, .inl od))] sz) := by
  refine Met.ofW (cc := b_DR_rank) (maxL := 3) (ret := (some .int)) (by decide) rfl ?_
  intro p e s m args below meth c s₁ B hml hv
  obtain ⟨rfl, hsz, hP, hK, hN, hD0⟩ := hv
  have hx := B.exec
  have hb := B.bytes
  have hr := B.returns
  have hts := atoms_spec (ws := w_DR_rank) B.pre
  have hown : s.vm.findClass R_DR = some m.cls := findClass_of_methodNamed B.named
  have hlocks := B.notSynchronized
  have hwg : ∀ w ∈ wg, w.before ([.ref x0, .int p1, .int p2] : List Value).toArray s = true := fun w h => hts w (List.mem_cons_of_mem _ h)
  subst hsz
  have hD := hD0.self (sz := s.heap.size)
  generalize hAe : va_A [(x0, .inr (0, [.ref aS, .ref aT, .ref aK, .ref aG, .ref aP, .ref aL, .int nm])), (aG, .inr (4, [.ref bG1, .ref bG2, .ref bG3, .ref bG4, .int us, .int mo, .long he, .long gi, .long fl])), (bG1, .inl (cI, 4, .inl rk)), (bG2, .inl (cI, 4, .inl nd)), (bG4, .inl (cI, 4, .inl od))] s.heap.size = A at hD ⊢
  have hA : ∀ q : Nat, s.heap.size ≤ q → A q := fun q h => by rw [← hAe]; exact Or.inr h
  have hS : va_S A s.heap s.heap [] := va_S.rf
  have hP : va_P (dC, dI) vwCl [(x0, .inr (0, [.ref aS, .ref aT, .ref aK, .ref aG, .ref aP, .ref aL, .int nm])), (aG, .inr (4, [.ref bG1, .ref bG2, .ref bG3, .ref bG4, .int us, .int mo, .long he, .long gi, .long fl])), (bG1, .inl (cI, 4, .inl rk)), (bG2, .inl (cI, 4, .inl nd)), (bG4, .inl (cI, 4, .inl od))] s.heap := hP
  have hl := lv_entry ([.ref x0, .int p1, .int p2]) (n := 3) (Nat.le_of_ble_eq_true rfl)
  rw [lg_entry_eq]
  generalize (lg_sl ([.ref x0, .int p1, .int p2]) ++ List.replicate (3 - (lg_sl ([.ref x0, .int p1, .int p2])).length) Slot.unset).toArray = ls at hl ⊢
  have hl : lv_has ls 3 [(0, .ref x0), (1, .int p1), (2, .int p2)] := hl
  refine lv_iload_n hx hb d_DR_rank_0 rfl (lv_at hl 1 rfl) ?_
  refine lv_iconst (v := 0) hx hb d_DR_rank_1 (by decide) ?_
  refine lv_bipush (v := 9) hx hb d_DR_rank_2 (by decide) ?_
  have hPc := hP.sub (ws' := []) [] rfl
  have hDc := hD.sub (ws' := []) [] (by decide) rfl
  refine k_calli hP hD hS hA [] [0, 1, 2, 3, 4] (wc := []) (wr := [(x0, .inr (0, [.ref aS, .ref aT, .ref aK, .ref aG, .ref aP, .ref aL, .int nm])), (aG, .inr (4, [.ref bG1, .ref bG2, .ref bG3, .ref bG4, .int us, .int mo, .long he, .long gi, .long fl])), (bG1, .inl (cI, 4, .inl rk)), (bG2, .inl (cI, 4, .inl nd)), (bG4, .inl (cI, 4, .inl od))]) rfl rfl (by decide) (by decide) (va_runS (As := [.int p1, .int 0, .int 9]) (rest := []) ⟨hx, hb, hml, hown, hwg⟩ (c_DR_within l dC dI cI cL cZ s.heap.size p1 0 9) (va_cwS 3 hwg (g_S kw_106 kw_107 kw_14 kw_108) rfl rfl rfl (by decide +kernel) ⟨Nat.le_of_ble_eq_true rfl, Nat.le_of_ble_eq_true rfl⟩) ⟨c_pre_call, c_pre_mk hPc hDc hK hN _⟩ rfl rfl hl.1 rfl (lv_room (Nat.le_of_ble_eq_true rfl)) d_DR_rank_4 ⟨Nat.le_of_ble_eq_true rfl, Nat.le_of_ble_eq_true rfl⟩) (fun r4 u H4 locs w4 hz1 hP hD hS => ?_)
  have hP := hP.sub (ws' := [(x0, .inr (0, [.ref aS, .ref aT, .ref aK, .ref aG, .ref aP, .ref aL, .int nm])), (aG, .inr (4, [.ref bG1, .ref bG2, .ref bG3, .ref bG4, .int us, .int mo, .long he, .long gi, .long fl])), (bG1, .inl (cI, 4, .inl rk)), (bG2, .inl (cI, 4, .inl nd)), (bG4, .inl (cI, 4, .inl od))]) [0, 1, 2, 3, 4] rfl
  have hD := hD.sub (ws' := [(x0, .inr (0, [.ref aS, .ref aT, .ref aK, .ref aG, .ref aP, .ref aL, .int nm])), (aG, .inr (4, [.ref bG1, .ref bG2, .ref bG3, .ref bG4, .int us, .int mo, .long he, .long gi, .long fl])), (bG1, .inl (cI, 4, .inl rk)), (bG2, .inl (cI, 4, .inl nd)), (bG4, .inl (cI, 4, .inl od))]) [0, 1, 2, 3, 4] (by decide) rfl
  refine lv_if_eq (tgt := 20) hx hb d_DR_rank_7 (by decide) (fun (c7 : r4 = 0) => ?_) (fun (c7 : ¬ (r4 = 0)) => ?_)
  · refine lv_iconst (v := (-1)) hx hb d_DR_rank_20 (by decide) ?_
    have hP9 := hP.sub (ws' := [(x0, .inr (0, [.ref aS, .ref aT, .ref aK, .ref aG, .ref aP, .ref aL, .int nm])), (aG, .inr (4, [.ref bG1, .ref bG2, .ref bG3, .ref bG4, .int us, .int mo, .long he, .long gi, .long fl])), (bG1, .inl (cI, 4, .inl rk)), (bG2, .inl (cI, 4, .inl nd)), (bG4, .inl (cI, 4, .inl od))]) [0, 1, 2, 3, 4] rfl
    have hD9 := hD.sub (ws' := [(x0, .inr (0, [.ref aS, .ref aT, .ref aK, .ref aG, .ref aP, .ref aL, .int nm])), (aG, .inr (4, [.ref bG1, .ref bG2, .ref bG3, .ref bG4, .int us, .int mo, .long he, .long gi, .long fl])), (bG1, .inl (cI, 4, .inl rk)), (bG2, .inl (cI, 4, .inl nd)), (bG4, .inl (cI, 4, .inl od))]) [0, 1, 2, 3, 4] (by decide) rfl
    exact W.iret (v := (-1)) hx hb hr (fun t ht hW => ⟨⟨(-1), (us, rk, nd, od), rfl, by simp only [f_DR_rank, w4, if_pos c7], by rw [ht]; exact hP9, hD9⟩, hS.F ht⟩) hS.2.2 d_DR_rank_21
  · refine lv_iload_n hx hb d_DR_rank_10 rfl (lv_at hl 2 rfl) ?_
    refine lv_iconst (v := 0) hx hb d_DR_rank_11 (by decide) ?_
    refine lv_ldc hx hb hown (hwg _ kw_124) d_DR_rank_12 ?_
    have hPc := hP.sub (ws' := []) [] rfl
    have hDc := hD.sub (ws' := []) [] (by decide) rfl
    refine k_calli hP hD hS hA [] [0, 1, 2, 3, 4] (wc := []) (wr := [(x0, .inr (0, [.ref aS, .ref aT, .ref aK, .ref aG, .ref aP, .ref aL, .int nm])), (aG, .inr (4, [.ref bG1, .ref bG2, .ref bG3, .ref bG4, .int us, .int mo, .long he, .long gi, .long fl])), (bG1, .inl (cI, 4, .inl rk)), (bG2, .inl (cI, 4, .inl nd)), (bG4, .inl (cI, 4, .inl od))]) rfl rfl (by decide) (by decide) (va_runS (As := [.int p2, .int 0, .int 1000000]) (rest := []) ⟨hx, hb, hml, hown, hwg⟩ (c_DR_within l dC dI cI cL cZ H4.size p2 0 1000000) (va_cwS 3 hwg (g_S kw_106 kw_107 kw_14 kw_108) rfl rfl rfl (by decide +kernel) ⟨Nat.le_of_ble_eq_true rfl, Nat.le_of_ble_eq_true rfl⟩) ⟨c_pre_call, c_pre_mk hPc hDc hK hN _⟩ rfl rfl hl.1 rfl (lv_room (Nat.le_of_ble_eq_true rfl)) d_DR_rank_14 ⟨Nat.le_of_ble_eq_true rfl, Nat.le_of_ble_eq_true rfl⟩) (fun r14 u H14 locs w14 hz1 hP hD hS => ?_)
    have hP := hP.sub (ws' := [(x0, .inr (0, [.ref aS, .ref aT, .ref aK, .ref aG, .ref aP, .ref aL, .int nm])), (aG, .inr (4, [.ref bG1, .ref bG2, .ref bG3, .ref bG4, .int us, .int mo, .long he, .long gi, .long fl])), (bG1, .inl (cI, 4, .inl rk)), (bG2, .inl (cI, 4, .inl nd)), (bG4, .inl (cI, 4, .inl od))]) [0, 1, 2, 3, 4] rfl
    have hD := hD.sub (ws' := [(x0, .inr (0, [.ref aS, .ref aT, .ref aK, .ref aG, .ref aP, .ref aL, .int nm])), (aG, .inr (4, [.ref bG1, .ref bG2, .ref bG3, .ref bG4, .int us, .int mo, .long he, .long gi, .long fl])), (bG1, .inl (cI, 4, .inl rk)), (bG2, .inl (cI, 4, .inl nd)), (bG4, .inl (cI, 4, .inl od))]) [0, 1, 2, 3, 4] (by decide) rfl
    refine lv_if_ne (tgt := 22) hx hb d_DR_rank_17 (by decide) (fun (c17 : ¬ (r14 = 0)) => ?_) (fun (c17 : r14 = 0) => ?_)
    · refine lv_aload_n hx hb d_DR_rank_22 rfl (lv_at hl 0 rfl) ?_
      refine va_get (D := (dC, dI)) (ci := 0) (v := .ref aG) (C := R_DR) (T := F_DR) (N := 7) hx hb hwg iu_DR hown hK hP 0 rfl rfl 3 (by decide) (hwg _ kw_95) (fun _ h9 => h9) rfl d_DR_rank_23 ?_
      refine lv_iload_n hx hb d_DR_rank_26 rfl (lv_at hl 1 rfl) ?_
      refine lv_iload_n hx hb d_DR_rank_27 rfl (lv_at hl 2 rfl) ?_
      have hPc := hP.sub (ws' := [(aG, .inr (4, [.ref bG1, .ref bG2, .ref bG3, .ref bG4, .int us, .int mo, .long he, .long gi, .long fl])), (bG1, .inl (cI, 4, .inl rk)), (bG2, .inl (cI, 4, .inl nd)), (bG4, .inl (cI, 4, .inl od))]) [1, 2, 3, 4] rfl
      have hDc := hD.sub (ws' := [(aG, .inr (4, [.ref bG1, .ref bG2, .ref bG3, .ref bG4, .int us, .int mo, .long he, .long gi, .long fl])), (bG1, .inl (cI, 4, .inl rk)), (bG2, .inl (cI, 4, .inl nd)), (bG4, .inl (cI, 4, .inl od))]) [1, 2, 3, 4] (by decide) rfl
      refine k_calli hP hD hS hA [1, 2, 3, 4] [0] (wc := [(aG, .inr (4, [.ref bG1, .ref bG2, .ref bG3, .ref bG4, .int us, .int mo, .long he, .long gi, .long fl])), (bG1, .inl (cI, 4, .inl rk)), (bG2, .inl (cI, 4, .inl nd)), (bG4, .inl (cI, 4, .inl od))]) (wr := [(x0, .inr (0, [.ref aS, .ref aT, .ref aK, .ref aG, .ref aP, .ref aL, .int nm]))]) rfl rfl (by decide) (by decide) (va_runV (As := [.int p1, .int p2]) (rest := []) ⟨hx, hb, hml, hown, hwg⟩ (c_GasStore_addUser l dC dI cI cL cZ aG bG1 bG2 bG3 bG4 H14.size us mo he gi fl rk nd od p1 p2 hus hod) (cwV 2 hwg (g_V kw_161 kw_162 kw_163 kw_18 kw_164) rfl rfl rfl (by decide +kernel) ⟨Nat.le_of_ble_eq_true rfl, Nat.le_of_ble_eq_true rfl⟩) ⟨c_pre_call, va_recv hK hPc (ci := 4) (q0 := 0) rfl rfl, c_pre_mk hPc hDc hK hN _⟩ rfl rfl hl.1 rfl (lv_room (Nat.le_of_ble_eq_true rfl)) d_DR_rank_28 ⟨Nat.le_of_ble_eq_true rfl, Nat.le_of_ble_eq_true rfl⟩) (fun r28 u H28 locs w28 hz1 hP hD hS => ?_)
      obtain ⟨us_28, rk_28, nd_28, od_28⟩ := u
      have hP := hP.sub (ws' := [(x0, .inr (0, [.ref aS, .ref aT, .ref aK, .ref aG, .ref aP, .ref aL, .int nm])), (aG, .inr (4, [.ref bG1, .ref bG2, .ref bG3, .ref bG4, .int us_28, .int mo, .long he, .long gi, .long fl])), (bG1, .inl (cI, 4, .inl rk_28)), (bG2, .inl (cI, 4, .inl nd_28)), (bG4, .inl (cI, 4, .inl od_28))]) [0, 1, 2, 3, 4] rfl
      have hD := hD.sub (ws' := [(x0, .inr (0, [.ref aS, .ref aT, .ref aK, .ref aG, .ref aP, .ref aL, .int nm])), (aG, .inr (4, [.ref bG1, .ref bG2, .ref bG3, .ref bG4, .int us_28, .int mo, .long he, .long gi, .long fl])), (bG1, .inl (cI, 4, .inl rk_28)), (bG2, .inl (cI, 4, .inl nd_28)), (bG4, .inl (cI, 4, .inl od_28))]) [0, 1, 2, 3, 4] (by decide) rfl
      have hP9 := hP.sub (ws' := [(x0, .inr (0, [.ref aS, .ref aT, .ref aK, .ref aG, .ref aP, .ref aL, .int nm])), (aG, .inr (4, [.ref bG1, .ref bG2, .ref bG3, .ref bG4, .int us_28, .int mo, .long he, .long gi, .long fl])), (bG1, .inl (cI, 4, .inl rk_28)), (bG2, .inl (cI, 4, .inl nd_28)), (bG4, .inl (cI, 4, .inl od_28))]) [0, 1, 2, 3, 4] rfl
      have hD9 := hD.sub (ws' := [(x0, .inr (0, [.ref aS, .ref aT, .ref aK, .ref aG, .ref aP, .ref aL, .int nm])), (aG, .inr (4, [.ref bG1, .ref bG2, .ref bG3, .ref bG4, .int us_28, .int mo, .long he, .long gi, .long fl])), (bG1, .inl (cI, 4, .inl rk_28)), (bG2, .inl (cI, 4, .inl nd_28)), (bG4, .inl (cI, 4, .inl od_28))]) [0, 1, 2, 3, 4] (by decide) rfl
      exact W.iret (v := r28) hx hb hr (fun t ht hW => ⟨⟨r28, (us_28, rk_28, nd_28, od_28), rfl, by simp only [f_DR_rank, w4, if_neg c7, w14, if_neg c17, w28], by rw [ht]; exact hP9, hD9⟩, hS.F ht⟩) hS.2.2 d_DR_rank_31
    · refine lv_iconst (v := (-1)) hx hb d_DR_rank_20 (by decide) ?_
      have hP9 := hP.sub (ws' := [(x0, .inr (0, [.ref aS, .ref aT, .ref aK, .ref aG, .ref aP, .ref aL, .int nm])), (aG, .inr (4, [.ref bG1, .ref bG2, .ref bG3, .ref bG4, .int us, .int mo, .long he, .long gi, .long fl])), (bG1, .inl (cI, 4, .inl rk)), (bG2, .inl (cI, 4, .inl nd)), (bG4, .inl (cI, 4, .inl od))]) [0, 1, 2, 3, 4] rfl
      have hD9 := hD.sub (ws' := [(x0, .inr (0, [.ref aS, .ref aT, .ref aK, .ref aG, .ref aP, .ref aL, .int nm])), (aG, .inr (4, [.ref bG1, .ref bG2, .ref bG3, .ref bG4, .int us, .int mo, .long he, .long gi, .long fl])), (bG1, .inl (cI, 4, .inl rk)), (bG2, .inl (cI, 4, .inl nd)), (bG4, .inl (cI, 4, .inl od))]) [0, 1, 2, 3, 4] (by decide) rfl
      exact W.iret (v := (-1)) hx hb hr (fun t ht hW => ⟨⟨(-1), (us, rk, nd, od), rfl, by simp only [f_DR_rank, w4, if_neg c7, w14, if_pos c17], by rw [ht]; exact hP9, hD9⟩, hS.F ht⟩) hS.2.2 d_DR_rank_21
def f_DR_at (gr : Nat → Int64) (p1 : Int32) : Int64 := let r1 := f_DR_isPart p1; if r1 = 0 then ((-1)) else (gr (Int32.toNatClampNeg p1))
abbrev rm_DR_at : Room := { frames := 2, cells := 0, slots := 0, locals := 42 }
set_option maxHeartbeats 4000000 in
set_option maxRecDepth 100000 in
theorem c_DR_at (l : Launch) (dC : Nat → ClassId) (dI : Nat → Nat → Nat) (cI cL cZ : ClassId) (x0 aS aT aK aG aP aL bK1 bK2 : Nat) (sz : Nat) (nm : Int32) (sb : Int32) (cam : Int64) (gma : Int64) (gr : Nat → Int64) (p1 : Int32) : Met l y_DR_at w_DR_at rm_DR_at (va_Pc [.ref x0, .int p1] (c_pre dC dI cI cL cZ [(x0, .inr (0, [.ref aS, .ref aT, .ref aK, .ref aG, .ref aP, .ref aL, .int nm])), (aK, .inr (3, [.ref bK1, .ref bK2, .int sb, .long cam, .long gma])), (bK1, .inl (cL, 4, .inr (.inl gr)))] sz)) (va_Ql (fun (r : Int64) (_ : Unit) => f_DR_at gr p1 = r) (c_post dC dI (fun (u : Unit) => [(x0, .inr (0, [.ref aS, .ref aT, .ref aK, .ref aG, .ref aP, .ref aL, .int nm])), (aK, .inr (3, [.ref bK1, .ref bK2, .int sb, .long cam, .long gma])), (bK1, .inl (cL, 4, .inr (.inl gr)))]) (va_A [(x0, .inr (0, [.ref aS, .ref aT, .ref aK, .ref aG, .ref aP, .ref aL, .int nm])), (aK, .inr (3, [.ref bK1, .ref bK2, .int sb, .long cam, .long gma])), (bK1, .inl (cL, 4, .inr (.inl gr)))] sz)) (va_A [(x0, .inr (0, [.ref aS, .ref aT, .ref aK, .ref aG, .ref aP, .ref aL, .int nm])), (aK, .inr (3, [.ref bK1, .ref bK2, .int sb, .long cam, .long gma])), (bK1, .inl (cL, 4, .inr (.inl gr)))] sz)) 0 0 (va_A [(x0, .inr (0, [.ref aS, .ref aT, .ref aK, .ref aG, .ref aP, .ref aL, .int nm])), (aK, .inr (3, [.ref bK1, .ref bK2, .int sb, .long cam, .long gma])), (bK1, .inl (cL, 4, .inr (.inl gr)))] sz) := by
  refine Met.ofW (cc := b_DR_at) (maxL := 2) (ret := (some .long)) (by decide) rfl ?_
  intro p e s m args below meth c s₁ B hml hv
  obtain ⟨rfl, hsz, hP, hK, hN, hD0⟩ := hv
  have hx := B.exec
  have hb := B.bytes
  have hr := B.returns
  have hts := atoms_spec (ws := w_DR_at) B.pre
  have hown : s.vm.findClass R_DR = some m.cls := findClass_of_methodNamed B.named
  have hlocks := B.notSynchronized
  have hwg : ∀ w ∈ wg, w.before ([.ref x0, .int p1] : List Value).toArray s = true := fun w h => hts w (List.mem_cons_of_mem _ h)
  subst hsz
  have hD := hD0.self (sz := s.heap.size)
  generalize hAe : va_A [(x0, .inr (0, [.ref aS, .ref aT, .ref aK, .ref aG, .ref aP, .ref aL, .int nm])), (aK, .inr (3, [.ref bK1, .ref bK2, .int sb, .long cam, .long gma])), (bK1, .inl (cL, 4, .inr (.inl gr)))] s.heap.size = A at hD ⊢
  have hA : ∀ q : Nat, s.heap.size ≤ q → A q := fun q h => by rw [← hAe]; exact Or.inr h
  have hS : va_S A s.heap s.heap [] := va_S.rf
  have hP : va_P (dC, dI) vwCl [(x0, .inr (0, [.ref aS, .ref aT, .ref aK, .ref aG, .ref aP, .ref aL, .int nm])), (aK, .inr (3, [.ref bK1, .ref bK2, .int sb, .long cam, .long gma])), (bK1, .inl (cL, 4, .inr (.inl gr)))] s.heap := hP
  have hl := lv_entry ([.ref x0, .int p1]) (n := 2) (Nat.le_of_ble_eq_true rfl)
  rw [lg_entry_eq]
  generalize (lg_sl ([.ref x0, .int p1]) ++ List.replicate (2 - (lg_sl ([.ref x0, .int p1])).length) Slot.unset).toArray = ls at hl ⊢
  have hl : lv_has ls 2 [(0, .ref x0), (1, .int p1)] := hl
  refine lv_iload_n hx hb d_DR_at_0 rfl (lv_at hl 1 rfl) ?_
  have hPc := hP.sub (ws' := []) [] rfl
  have hDc := hD.sub (ws' := []) [] (by decide) rfl
  refine k_calli hP hD hS hA [] [0, 1, 2] (wc := []) (wr := [(x0, .inr (0, [.ref aS, .ref aT, .ref aK, .ref aG, .ref aP, .ref aL, .int nm])), (aK, .inr (3, [.ref bK1, .ref bK2, .int sb, .long cam, .long gma])), (bK1, .inl (cL, 4, .inr (.inl gr)))]) rfl rfl (by decide) (by decide) (va_runS (As := [.int p1]) (rest := []) ⟨hx, hb, hml, hown, hwg⟩ (c_DR_isPart l dC dI cI cL cZ s.heap.size p1) (va_cwS 1 hwg (g_S kw_121 kw_122 kw_14 kw_123) rfl rfl rfl (by decide +kernel) ⟨Nat.le_of_ble_eq_true rfl, Nat.le_of_ble_eq_true rfl⟩) ⟨c_pre_call, c_pre_mk hPc hDc hK hN _⟩ rfl rfl hl.1 rfl (lv_room (Nat.le_of_ble_eq_true rfl)) d_DR_at_1 ⟨Nat.le_of_ble_eq_true rfl, Nat.le_of_ble_eq_true rfl⟩) (fun r1 u H1 locs w1 hz1 hP hD hS => ?_)
  have hP := hP.sub (ws' := [(x0, .inr (0, [.ref aS, .ref aT, .ref aK, .ref aG, .ref aP, .ref aL, .int nm])), (aK, .inr (3, [.ref bK1, .ref bK2, .int sb, .long cam, .long gma])), (bK1, .inl (cL, 4, .inr (.inl gr)))]) [0, 1, 2] rfl
  have hD := hD.sub (ws' := [(x0, .inr (0, [.ref aS, .ref aT, .ref aK, .ref aG, .ref aP, .ref aL, .int nm])), (aK, .inr (3, [.ref bK1, .ref bK2, .int sb, .long cam, .long gma])), (bK1, .inl (cL, 4, .inr (.inl gr)))]) [0, 1, 2] (by decide) rfl
  refine lv_if_eq (tgt := 19) hx hb d_DR_at_4 (by decide) (fun (c4 : r1 = 0) => ?_) (fun (c4 : ¬ (r1 = 0)) => ?_)
  · refine lv_ldc2 hx hb hown (hwg _ kw_237) d_DR_at_19 ?_
    have hP9 := hP.sub (ws' := [(x0, .inr (0, [.ref aS, .ref aT, .ref aK, .ref aG, .ref aP, .ref aL, .int nm])), (aK, .inr (3, [.ref bK1, .ref bK2, .int sb, .long cam, .long gma])), (bK1, .inl (cL, 4, .inr (.inl gr)))]) [0, 1, 2] rfl
    have hD9 := hD.sub (ws' := [(x0, .inr (0, [.ref aS, .ref aT, .ref aK, .ref aG, .ref aP, .ref aL, .int nm])), (aK, .inr (3, [.ref bK1, .ref bK2, .int sb, .long cam, .long gma])), (bK1, .inl (cL, 4, .inr (.inl gr)))]) [0, 1, 2] (by decide) rfl
    exact W.lret (v := (-1)) hx hb hr (fun t ht hW => ⟨⟨(-1), (), rfl, by simp only [f_DR_at, w1, if_pos c4], by rw [ht]; exact hP9, hD9⟩, hS.F ht⟩) hS.2.2 d_DR_at_22
  · refine lv_aload_n hx hb d_DR_at_7 rfl (lv_at hl 0 rfl) ?_
    refine va_get (D := (dC, dI)) (ci := 0) (v := .ref aK) (C := R_DR) (T := F_DR) (N := 7) hx hb hwg iu_DR hown hK hP 0 rfl rfl 2 (by decide) (hwg _ kw_94) (fun _ h9 => h9) rfl d_DR_at_8 ?_
    refine va_getN (D := (dC, dI)) (ci := 3) (v := .ref bK1) (C := R_Tank) (T := F_Tank) (N := 5) hx hb hwg iu_Tank hown hK hP 1 rfl rfl 0 (by decide) (va_Nw.use rfl (hN _ nk_7)) (fun _ h9 => h9) rfl d_DR_at_11 ?_
    refine lv_iload_n hx hb d_DR_at_14 rfl (lv_at hl 1 rfl) ?_
    refine va_lald hx hb hK hP 2 1 rfl rfl (in_isPart w1 c4) d_DR_at_15 ?_
    refine lv_goto (tgt := 22) hx hb d_DR_at_16 (by decide) ?_
    have hP9 := hP.sub (ws' := [(x0, .inr (0, [.ref aS, .ref aT, .ref aK, .ref aG, .ref aP, .ref aL, .int nm])), (aK, .inr (3, [.ref bK1, .ref bK2, .int sb, .long cam, .long gma])), (bK1, .inl (cL, 4, .inr (.inl gr)))]) [0, 1, 2] rfl
    have hD9 := hD.sub (ws' := [(x0, .inr (0, [.ref aS, .ref aT, .ref aK, .ref aG, .ref aP, .ref aL, .int nm])), (aK, .inr (3, [.ref bK1, .ref bK2, .int sb, .long cam, .long gma])), (bK1, .inl (cL, 4, .inr (.inl gr)))]) [0, 1, 2] (by decide) rfl
    exact W.lret (v := gr (Int32.toNatClampNeg p1)) hx hb hr (fun t ht hW => ⟨⟨gr (Int32.toNatClampNeg p1), (), rfl, by simp only [f_DR_at, w1, if_neg c4], by rw [ht]; exact hP9, hD9⟩, hS.F ht⟩) hS.2.2 d_DR_at_22
def f_DR_given (us : Int32) (gv : Nat → Int64) (p1 : Int32) : Int64 := let r11 := f_DR_within p1 0 (us - 1); if r11 = 0 then ((-1)) else (gv (Int32.toNatClampNeg p1))
abbrev rm_DR_given : Room := { frames := 1, cells := 0, slots := 0, locals := 22 }
set_option maxHeartbeats 4000000 in
set_option maxRecDepth 100000 in
theorem c_DR_given (l : Launch) (dC : Nat → ClassId) (dI : Nat → Nat → Nat) (cI cL cZ : ClassId) (x0 aS aT aK aG aP aL bG1 bG2 bG3 bG4 : Nat) (sz : Nat) (nm : Int32) (us : Int32) (mo : Int32) (he : Int64) (gi : Int64) (fl : Int64) (gv : Nat → Int64) (p1 : Int32) (hus : vp_in us 5) : Met l y_DR_given w_DR_given rm_DR_given (va_Pc [.ref x0, .int p1] (c_pre dC dI cI cL cZ [(x0, .inr (0, [.ref aS, .ref aT, .ref aK, .ref aG, .ref aP, .ref aL, .int nm])), (aG, .inr (4, [.ref bG1, .ref bG2, .ref bG3, .ref bG4, .int us, .int mo, .long he, .long gi, .long fl])), (bG3, .inl (cL, 4, .inr (.inl gv)))] sz)) (va_Ql (fun (r : Int64) (_ : Unit) => f_DR_given us gv p1 = r) (c_post dC dI (fun (u : Unit) => [(x0, .inr (0, [.ref aS, .ref aT, .ref aK, .ref aG, .ref aP, .ref aL, .int nm])), (aG, .inr (4, [.ref bG1, .ref bG2, .ref bG3, .ref bG4, .int us, .int mo, .long he, .long gi, .long fl])), (bG3, .inl (cL, 4, .inr (.inl gv)))]) (va_A [(x0, .inr (0, [.ref aS, .ref aT, .ref aK, .ref aG, .ref aP, .ref aL, .int nm])), (aG, .inr (4, [.ref bG1, .ref bG2, .ref bG3, .ref bG4, .int us, .int mo, .long he, .long gi, .long fl])), (bG3, .inl (cL, 4, .inr (.inl gv)))] sz)) (va_A [(x0, .inr (0, [.ref aS, .ref aT, .ref aK, .ref aG, .ref aP, .ref aL, .int nm])), (aG, .inr (4, [.ref bG1, .ref bG2, .ref bG3, .ref bG4, .int us, .int mo, .long he, .long gi, .long fl])), (bG3, .inl (cL, 4, .inr (.inl gv)))] sz)) 0 0 (va_A [(x0, .inr (0, [.ref aS, .ref aT, .ref aK, .ref aG, .ref aP, .ref aL, .int nm])), (aG, .inr (4, [.ref bG1, .ref bG2, .ref bG3, .ref bG4, .int us, .int mo, .long he, .long gi, .long fl])), (bG3, .inl (cL, 4, .inr (.inl gv)))] sz) := by
  refine Met.ofW (cc := b_DR_given) (maxL := 2) (ret := (some .long)) (by decide) rfl ?_
  intro p e s m args below meth c s₁ B hml hv
  obtain ⟨rfl, hsz, hP, hK, hN, hD0⟩ := hv
  have hx := B.exec
  have hb := B.bytes
  have hr := B.returns
  have hts := atoms_spec (ws := w_DR_given) B.pre
  have hown : s.vm.findClass R_DR = some m.cls := findClass_of_methodNamed B.named
  have hlocks := B.notSynchronized
  have hwg : ∀ w ∈ wg, w.before ([.ref x0, .int p1] : List Value).toArray s = true := fun w h => hts w (List.mem_cons_of_mem _ h)
  subst hsz
  have hD := hD0.self (sz := s.heap.size)
  generalize hAe : va_A [(x0, .inr (0, [.ref aS, .ref aT, .ref aK, .ref aG, .ref aP, .ref aL, .int nm])), (aG, .inr (4, [.ref bG1, .ref bG2, .ref bG3, .ref bG4, .int us, .int mo, .long he, .long gi, .long fl])), (bG3, .inl (cL, 4, .inr (.inl gv)))] s.heap.size = A at hD ⊢
  have hA : ∀ q : Nat, s.heap.size ≤ q → A q := fun q h => by rw [← hAe]; exact Or.inr h
  have hS : va_S A s.heap s.heap [] := va_S.rf
  have hP : va_P (dC, dI) vwCl [(x0, .inr (0, [.ref aS, .ref aT, .ref aK, .ref aG, .ref aP, .ref aL, .int nm])), (aG, .inr (4, [.ref bG1, .ref bG2, .ref bG3, .ref bG4, .int us, .int mo, .long he, .long gi, .long fl])), (bG3, .inl (cL, 4, .inr (.inl gv)))] s.heap := hP
  have hl := lv_entry ([.ref x0, .int p1]) (n := 2) (Nat.le_of_ble_eq_true rfl)
  rw [lg_entry_eq]
  generalize (lg_sl ([.ref x0, .int p1]) ++ List.replicate (2 - (lg_sl ([.ref x0, .int p1])).length) Slot.unset).toArray = ls at hl ⊢
  have hl : lv_has ls 2 [(0, .ref x0), (1, .int p1)] := hl
  refine lv_iload_n hx hb d_DR_given_0 rfl (lv_at hl 1 rfl) ?_
  refine lv_iconst (v := 0) hx hb d_DR_given_1 (by decide) ?_
  refine lv_aload_n hx hb d_DR_given_2 rfl (lv_at hl 0 rfl) ?_
  refine va_get (D := (dC, dI)) (ci := 0) (v := .ref aG) (C := R_DR) (T := F_DR) (N := 7) hx hb hwg iu_DR hown hK hP 0 rfl rfl 3 (by decide) (hwg _ kw_95) (fun _ h9 => h9) rfl d_DR_given_3 ?_
  refine va_getN (D := (dC, dI)) (ci := 4) (v := .int us) (C := R_GasStore) (T := F_GasStore) (N := 9) hx hb hwg iu_GasStore hown hK hP 1 rfl rfl 4 (by decide) (va_Nw.use rfl (hN _ nk_14)) (fun _ h9 => h9) rfl d_DR_given_6 ?_
  refine lv_iconst (v := 1) hx hb d_DR_given_9 (by decide) ?_
  refine lv_isub hx hb d_DR_given_10 ?_
  have hPc := hP.sub (ws' := []) [] rfl
  have hDc := hD.sub (ws' := []) [] (by decide) rfl
  refine k_calli hP hD hS hA [] [0, 1, 2] (wc := []) (wr := [(x0, .inr (0, [.ref aS, .ref aT, .ref aK, .ref aG, .ref aP, .ref aL, .int nm])), (aG, .inr (4, [.ref bG1, .ref bG2, .ref bG3, .ref bG4, .int us, .int mo, .long he, .long gi, .long fl])), (bG3, .inl (cL, 4, .inr (.inl gv)))]) rfl rfl (by decide) (by decide) (va_runS (As := [.int p1, .int 0, .int (us - 1)]) (rest := []) ⟨hx, hb, hml, hown, hwg⟩ (c_DR_within l dC dI cI cL cZ s.heap.size p1 0 (us - 1)) (va_cwS 3 hwg (g_S kw_106 kw_107 kw_14 kw_108) rfl rfl rfl (by decide +kernel) ⟨Nat.le_of_ble_eq_true rfl, Nat.le_of_ble_eq_true rfl⟩) ⟨c_pre_call, c_pre_mk hPc hDc hK hN _⟩ rfl rfl hl.1 rfl (lv_room (Nat.le_of_ble_eq_true rfl)) d_DR_given_11 ⟨Nat.le_of_ble_eq_true rfl, Nat.le_of_ble_eq_true rfl⟩) (fun r11 u H11 locs w11 hz1 hP hD hS => ?_)
  have hP := hP.sub (ws' := [(x0, .inr (0, [.ref aS, .ref aT, .ref aK, .ref aG, .ref aP, .ref aL, .int nm])), (aG, .inr (4, [.ref bG1, .ref bG2, .ref bG3, .ref bG4, .int us, .int mo, .long he, .long gi, .long fl])), (bG3, .inl (cL, 4, .inr (.inl gv)))]) [0, 1, 2] rfl
  have hD := hD.sub (ws' := [(x0, .inr (0, [.ref aS, .ref aT, .ref aK, .ref aG, .ref aP, .ref aL, .int nm])), (aG, .inr (4, [.ref bG1, .ref bG2, .ref bG3, .ref bG4, .int us, .int mo, .long he, .long gi, .long fl])), (bG3, .inl (cL, 4, .inr (.inl gv)))]) [0, 1, 2] (by decide) rfl
  refine lv_if_eq (tgt := 29) hx hb d_DR_given_14 (by decide) (fun (c14 : r11 = 0) => ?_) (fun (c14 : ¬ (r11 = 0)) => ?_)
  · refine lv_ldc2 hx hb hown (hwg _ kw_237) d_DR_given_29 ?_
    have hP9 := hP.sub (ws' := [(x0, .inr (0, [.ref aS, .ref aT, .ref aK, .ref aG, .ref aP, .ref aL, .int nm])), (aG, .inr (4, [.ref bG1, .ref bG2, .ref bG3, .ref bG4, .int us, .int mo, .long he, .long gi, .long fl])), (bG3, .inl (cL, 4, .inr (.inl gv)))]) [0, 1, 2] rfl
    have hD9 := hD.sub (ws' := [(x0, .inr (0, [.ref aS, .ref aT, .ref aK, .ref aG, .ref aP, .ref aL, .int nm])), (aG, .inr (4, [.ref bG1, .ref bG2, .ref bG3, .ref bG4, .int us, .int mo, .long he, .long gi, .long fl])), (bG3, .inl (cL, 4, .inr (.inl gv)))]) [0, 1, 2] (by decide) rfl
    exact W.lret (v := (-1)) hx hb hr (fun t ht hW => ⟨⟨(-1), (), rfl, by simp only [f_DR_given, w11, if_pos c14], by rw [ht]; exact hP9, hD9⟩, hS.F ht⟩) hS.2.2 d_DR_given_32
  · refine lv_aload_n hx hb d_DR_given_17 rfl (lv_at hl 0 rfl) ?_
    refine va_get (D := (dC, dI)) (ci := 0) (v := .ref aG) (C := R_DR) (T := F_DR) (N := 7) hx hb hwg iu_DR hown hK hP 0 rfl rfl 3 (by decide) (hwg _ kw_95) (fun _ h9 => h9) rfl d_DR_given_18 ?_
    refine va_getN (D := (dC, dI)) (ci := 4) (v := .ref bG3) (C := R_GasStore) (T := F_GasStore) (N := 9) hx hb hwg iu_GasStore hown hK hP 1 rfl rfl 2 (by decide) (va_Nw.use rfl (hN _ nk_13)) (fun _ h9 => h9) rfl d_DR_given_21 ?_
    refine lv_iload_n hx hb d_DR_given_24 rfl (lv_at hl 1 rfl) ?_
    refine va_lald hx hb hK hP 2 1 rfl rfl (in_given hus w11 c14) d_DR_given_25 ?_
    refine lv_goto (tgt := 32) hx hb d_DR_given_26 (by decide) ?_
    have hP9 := hP.sub (ws' := [(x0, .inr (0, [.ref aS, .ref aT, .ref aK, .ref aG, .ref aP, .ref aL, .int nm])), (aG, .inr (4, [.ref bG1, .ref bG2, .ref bG3, .ref bG4, .int us, .int mo, .long he, .long gi, .long fl])), (bG3, .inl (cL, 4, .inr (.inl gv)))]) [0, 1, 2] rfl
    have hD9 := hD.sub (ws' := [(x0, .inr (0, [.ref aS, .ref aT, .ref aK, .ref aG, .ref aP, .ref aL, .int nm])), (aG, .inr (4, [.ref bG1, .ref bG2, .ref bG3, .ref bG4, .int us, .int mo, .long he, .long gi, .long fl])), (bG3, .inl (cL, 4, .inr (.inl gv)))]) [0, 1, 2] (by decide) rfl
    exact W.lret (v := gv (Int32.toNatClampNeg p1)) hx hb hr (fun t ht hW => ⟨⟨gv (Int32.toNatClampNeg p1), (), rfl, by simp only [f_DR_given, w11, if_neg c14], by rw [ht]; exact hP9, hD9⟩, hS.F ht⟩) hS.2.2 d_DR_given_32
def f_DR_gone (cam : Int64) (gma : Int64) (he : Int64) (gi : Int64) (fl : Int64) (p1 : Int32) : Int64 := if p1 = 0 then (cam) else if p1 = 1 then (gma) else if p1 = 2 then (gi) else if p1 = 3 then (fl) else if p1 = 4 then (he) else ((-1))
abbrev rm_DR_gone : Room := { frames := 0, cells := 0, slots := 0, locals := 0 }
set_option maxHeartbeats 4000000 in
set_option maxRecDepth 100000 in
theorem c_DR_gone (l : Launch) (dC : Nat → ClassId) (dI : Nat → Nat → Nat) (cI cL cZ : ClassId) (x0 aS aT aK aG aP aL bK1 bK2 bG1 bG2 bG3 bG4 : Nat) (sz : Nat) (nm : Int32) (sb : Int32) (cam : Int64) (gma : Int64) (us : Int32) (mo : Int32) (he : Int64) (gi : Int64) (fl : Int64) (p1 : Int32) : Met l y_DR_gone w_DR_gone rm_DR_gone (va_Pc [.ref x0, .int p1] (c_pre dC dI cI cL cZ [(x0, .inr (0, [.ref aS, .ref aT, .ref aK, .ref aG, .ref aP, .ref aL, .int nm])), (aK, .inr (3, [.ref bK1, .ref bK2, .int sb, .long cam, .long gma])), (aG, .inr (4, [.ref bG1, .ref bG2, .ref bG3, .ref bG4, .int us, .int mo, .long he, .long gi, .long fl]))] sz)) (va_Ql (fun (r : Int64) (_ : Unit) => f_DR_gone cam gma he gi fl p1 = r) (c_post dC dI (fun (u : Unit) => [(x0, .inr (0, [.ref aS, .ref aT, .ref aK, .ref aG, .ref aP, .ref aL, .int nm])), (aK, .inr (3, [.ref bK1, .ref bK2, .int sb, .long cam, .long gma])), (aG, .inr (4, [.ref bG1, .ref bG2, .ref bG3, .ref bG4, .int us, .int mo, .long he, .long gi, .long fl]))]) (va_A [(x0, .inr (0, [.ref aS, .ref aT, .ref aK, .ref aG, .ref aP, .ref aL, .int nm])), (aK, .inr (3, [.ref bK1, .ref bK2, .int sb, .long cam, .long gma])), (aG, .inr (4, [.ref bG1, .ref bG2, .ref bG3, .ref bG4, .int us, .int mo, .long he, .long gi, .long fl]))] sz)) (va_A [(x0, .inr (0, [.ref aS, .ref aT, .ref aK, .ref aG, .ref aP, .ref aL, .int nm])), (aK, .inr (3, [.ref bK1, .ref bK2, .int sb, .long cam, .long gma])), (aG, .inr (4, [.ref bG1, .ref bG2, .ref bG3, .ref bG4, .int us, .int mo, .long he, .long gi, .long fl]))] sz)) 0 0 (va_A [(x0, .inr (0, [.ref aS, .ref aT, .ref aK, .ref aG, .ref aP, .ref aL, .int nm])), (aK, .inr (3, [.ref bK1, .ref bK2, .int sb, .long cam, .long gma])), (aG, .inr (4, [.ref bG1, .ref bG2, .ref bG3, .ref bG4, .int us, .int mo, .long he, .long gi, .long fl]))] sz) := by
  refine Met.ofW (cc := b_DR_gone) (maxL := 2) (ret := (some .long)) (by decide) rfl ?_
  intro p e s m args below meth c s₁ B hml hv
  obtain ⟨rfl, hsz, hP, hK, hN, hD0⟩ := hv
  have hx := B.exec
  have hb := B.bytes
  have hr := B.returns
  have hts := atoms_spec (ws := w_DR_gone) B.pre
  have hown : s.vm.findClass R_DR = some m.cls := findClass_of_methodNamed B.named
  have hlocks := B.notSynchronized
  have hwg : ∀ w ∈ wg, w.before ([.ref x0, .int p1] : List Value).toArray s = true := fun w h => hts w (List.mem_cons_of_mem _ h)
  subst hsz
  have hD := hD0.self (sz := s.heap.size)
  generalize hAe : va_A [(x0, .inr (0, [.ref aS, .ref aT, .ref aK, .ref aG, .ref aP, .ref aL, .int nm])), (aK, .inr (3, [.ref bK1, .ref bK2, .int sb, .long cam, .long gma])), (aG, .inr (4, [.ref bG1, .ref bG2, .ref bG3, .ref bG4, .int us, .int mo, .long he, .long gi, .long fl]))] s.heap.size = A at hD ⊢
  have hA : ∀ q : Nat, s.heap.size ≤ q → A q := fun q h => by rw [← hAe]; exact Or.inr h
  have hS : va_S A s.heap s.heap [] := va_S.rf
  have hP : va_P (dC, dI) vwCl [(x0, .inr (0, [.ref aS, .ref aT, .ref aK, .ref aG, .ref aP, .ref aL, .int nm])), (aK, .inr (3, [.ref bK1, .ref bK2, .int sb, .long cam, .long gma])), (aG, .inr (4, [.ref bG1, .ref bG2, .ref bG3, .ref bG4, .int us, .int mo, .long he, .long gi, .long fl]))] s.heap := hP
  have hl := lv_entry ([.ref x0, .int p1]) (n := 2) (Nat.le_of_ble_eq_true rfl)
  rw [lg_entry_eq]
  generalize (lg_sl ([.ref x0, .int p1]) ++ List.replicate (2 - (lg_sl ([.ref x0, .int p1])).length) Slot.unset).toArray = ls at hl ⊢
  have hl : lv_has ls 2 [(0, .ref x0), (1, .int p1)] := hl
  refine lv_iload_n hx hb d_DR_gone_0 rfl (lv_at hl 1 rfl) ?_
  by_cases c1 : p1 = 0
  · refine lv_tableIn (off := 35) (tgt := 36) hx hb d_DR_gone_1 (by rw [c1]; decide) (by rw [c1]; decide) (by rw [c1]; decide) (by decide) ?_
    refine lv_aload_n hx hb d_DR_gone_36 rfl (lv_at hl 0 rfl) ?_
    refine va_get (D := (dC, dI)) (ci := 0) (v := .ref aK) (C := R_DR) (T := F_DR) (N := 7) hx hb hwg iu_DR hown hK hP 0 rfl rfl 2 (by decide) (hwg _ kw_94) (fun _ h9 => h9) rfl d_DR_gone_37 ?_
    refine va_getN (D := (dC, dI)) (ci := 3) (v := .long cam) (C := R_Tank) (T := F_Tank) (N := 5) hx hb hwg iu_Tank hown hK hP 1 rfl rfl 3 (by decide) (va_Nw.use rfl (hN _ nk_10)) (fun _ h9 => h9) rfl d_DR_gone_40 ?_
    have hP9 := hP.sub (ws' := [(x0, .inr (0, [.ref aS, .ref aT, .ref aK, .ref aG, .ref aP, .ref aL, .int nm])), (aK, .inr (3, [.ref bK1, .ref bK2, .int sb, .long cam, .long gma])), (aG, .inr (4, [.ref bG1, .ref bG2, .ref bG3, .ref bG4, .int us, .int mo, .long he, .long gi, .long fl]))]) [0, 1, 2] rfl
    have hD9 := hD.sub (ws' := [(x0, .inr (0, [.ref aS, .ref aT, .ref aK, .ref aG, .ref aP, .ref aL, .int nm])), (aK, .inr (3, [.ref bK1, .ref bK2, .int sb, .long cam, .long gma])), (aG, .inr (4, [.ref bG1, .ref bG2, .ref bG3, .ref bG4, .int us, .int mo, .long he, .long gi, .long fl]))]) [0, 1, 2] (by decide) rfl
    exact W.lret (v := cam) hx hb hr (fun t ht hW => ⟨⟨cam, (), rfl, by simp only [f_DR_gone, if_pos c1], by rw [ht]; exact hP9, hD9⟩, hS.F ht⟩) hS.2.2 d_DR_gone_43
  · have hsw := trivial
    by_cases c1_2 : p1 = 1
    · refine lv_tableIn (off := 43) (tgt := 44) hx hb d_DR_gone_1 (by rw [c1_2]; decide) (by rw [c1_2]; decide) (by rw [c1_2]; decide) (by decide) ?_
      refine lv_aload_n hx hb d_DR_gone_44 rfl (lv_at hl 0 rfl) ?_
      refine va_get (D := (dC, dI)) (ci := 0) (v := .ref aK) (C := R_DR) (T := F_DR) (N := 7) hx hb hwg iu_DR hown hK hP 0 rfl rfl 2 (by decide) (hwg _ kw_94) (fun _ h9 => h9) rfl d_DR_gone_45 ?_
      refine va_getN (D := (dC, dI)) (ci := 3) (v := .long gma) (C := R_Tank) (T := F_Tank) (N := 5) hx hb hwg iu_Tank hown hK hP 1 rfl rfl 4 (by decide) (va_Nw.use rfl (hN _ nk_11)) (fun _ h9 => h9) rfl d_DR_gone_48 ?_
      have hP9 := hP.sub (ws' := [(x0, .inr (0, [.ref aS, .ref aT, .ref aK, .ref aG, .ref aP, .ref aL, .int nm])), (aK, .inr (3, [.ref bK1, .ref bK2, .int sb, .long cam, .long gma])), (aG, .inr (4, [.ref bG1, .ref bG2, .ref bG3, .ref bG4, .int us, .int mo, .long he, .long gi, .long fl]))]) [0, 1, 2] rfl
      have hD9 := hD.sub (ws' := [(x0, .inr (0, [.ref aS, .ref aT, .ref aK, .ref aG, .ref aP, .ref aL, .int nm])), (aK, .inr (3, [.ref bK1, .ref bK2, .int sb, .long cam, .long gma])), (aG, .inr (4, [.ref bG1, .ref bG2, .ref bG3, .ref bG4, .int us, .int mo, .long he, .long gi, .long fl]))]) [0, 1, 2] (by decide) rfl
      exact W.lret (v := gma) hx hb hr (fun t ht hW => ⟨⟨gma, (), rfl, by simp only [f_DR_gone, if_neg c1, if_pos c1_2], by rw [ht]; exact hP9, hD9⟩, hS.F ht⟩) hS.2.2 d_DR_gone_51
    · have hsw := trivial
      by_cases c1_3 : p1 = 2
      · refine lv_tableIn (off := 51) (tgt := 52) hx hb d_DR_gone_1 (by rw [c1_3]; decide) (by rw [c1_3]; decide) (by rw [c1_3]; decide) (by decide) ?_
        refine lv_aload_n hx hb d_DR_gone_52 rfl (lv_at hl 0 rfl) ?_
        refine va_get (D := (dC, dI)) (ci := 0) (v := .ref aG) (C := R_DR) (T := F_DR) (N := 7) hx hb hwg iu_DR hown hK hP 0 rfl rfl 3 (by decide) (hwg _ kw_95) (fun _ h9 => h9) rfl d_DR_gone_53 ?_
        refine va_getN (D := (dC, dI)) (ci := 4) (v := .long gi) (C := R_GasStore) (T := F_GasStore) (N := 9) hx hb hwg iu_GasStore hown hK hP 2 rfl rfl 7 (by decide) (va_Nw.use rfl (hN _ nk_17)) (fun _ h9 => h9) rfl d_DR_gone_56 ?_
        have hP9 := hP.sub (ws' := [(x0, .inr (0, [.ref aS, .ref aT, .ref aK, .ref aG, .ref aP, .ref aL, .int nm])), (aK, .inr (3, [.ref bK1, .ref bK2, .int sb, .long cam, .long gma])), (aG, .inr (4, [.ref bG1, .ref bG2, .ref bG3, .ref bG4, .int us, .int mo, .long he, .long gi, .long fl]))]) [0, 1, 2] rfl
        have hD9 := hD.sub (ws' := [(x0, .inr (0, [.ref aS, .ref aT, .ref aK, .ref aG, .ref aP, .ref aL, .int nm])), (aK, .inr (3, [.ref bK1, .ref bK2, .int sb, .long cam, .long gma])), (aG, .inr (4, [.ref bG1, .ref bG2, .ref bG3, .ref bG4, .int us, .int mo, .long he, .long gi, .long fl]))]) [0, 1, 2] (by decide) rfl
        exact W.lret (v := gi) hx hb hr (fun t ht hW => ⟨⟨gi, (), rfl, by simp only [f_DR_gone, if_neg c1, if_neg c1_2, if_pos c1_3], by rw [ht]; exact hP9, hD9⟩, hS.F ht⟩) hS.2.2 d_DR_gone_59
      · have hsw := trivial
        by_cases c1_4 : p1 = 3
        · refine lv_tableIn (off := 59) (tgt := 60) hx hb d_DR_gone_1 (by rw [c1_4]; decide) (by rw [c1_4]; decide) (by rw [c1_4]; decide) (by decide) ?_
          refine lv_aload_n hx hb d_DR_gone_60 rfl (lv_at hl 0 rfl) ?_
          refine va_get (D := (dC, dI)) (ci := 0) (v := .ref aG) (C := R_DR) (T := F_DR) (N := 7) hx hb hwg iu_DR hown hK hP 0 rfl rfl 3 (by decide) (hwg _ kw_95) (fun _ h9 => h9) rfl d_DR_gone_61 ?_
          refine va_getN (D := (dC, dI)) (ci := 4) (v := .long fl) (C := R_GasStore) (T := F_GasStore) (N := 9) hx hb hwg iu_GasStore hown hK hP 2 rfl rfl 8 (by decide) (va_Nw.use rfl (hN _ nk_18)) (fun _ h9 => h9) rfl d_DR_gone_64 ?_
          have hP9 := hP.sub (ws' := [(x0, .inr (0, [.ref aS, .ref aT, .ref aK, .ref aG, .ref aP, .ref aL, .int nm])), (aK, .inr (3, [.ref bK1, .ref bK2, .int sb, .long cam, .long gma])), (aG, .inr (4, [.ref bG1, .ref bG2, .ref bG3, .ref bG4, .int us, .int mo, .long he, .long gi, .long fl]))]) [0, 1, 2] rfl
          have hD9 := hD.sub (ws' := [(x0, .inr (0, [.ref aS, .ref aT, .ref aK, .ref aG, .ref aP, .ref aL, .int nm])), (aK, .inr (3, [.ref bK1, .ref bK2, .int sb, .long cam, .long gma])), (aG, .inr (4, [.ref bG1, .ref bG2, .ref bG3, .ref bG4, .int us, .int mo, .long he, .long gi, .long fl]))]) [0, 1, 2] (by decide) rfl
          exact W.lret (v := fl) hx hb hr (fun t ht hW => ⟨⟨fl, (), rfl, by simp only [f_DR_gone, if_neg c1, if_neg c1_2, if_neg c1_3, if_pos c1_4], by rw [ht]; exact hP9, hD9⟩, hS.F ht⟩) hS.2.2 d_DR_gone_67
        · have hsw := trivial
          by_cases c1_5 : p1 = 4
          · refine lv_tableIn (off := 67) (tgt := 68) hx hb d_DR_gone_1 (by rw [c1_5]; decide) (by rw [c1_5]; decide) (by rw [c1_5]; decide) (by decide) ?_
            refine lv_aload_n hx hb d_DR_gone_68 rfl (lv_at hl 0 rfl) ?_
            refine va_get (D := (dC, dI)) (ci := 0) (v := .ref aG) (C := R_DR) (T := F_DR) (N := 7) hx hb hwg iu_DR hown hK hP 0 rfl rfl 3 (by decide) (hwg _ kw_95) (fun _ h9 => h9) rfl d_DR_gone_69 ?_
            refine va_getN (D := (dC, dI)) (ci := 4) (v := .long he) (C := R_GasStore) (T := F_GasStore) (N := 9) hx hb hwg iu_GasStore hown hK hP 2 rfl rfl 6 (by decide) (va_Nw.use rfl (hN _ nk_16)) (fun _ h9 => h9) rfl d_DR_gone_72 ?_
            have hP9 := hP.sub (ws' := [(x0, .inr (0, [.ref aS, .ref aT, .ref aK, .ref aG, .ref aP, .ref aL, .int nm])), (aK, .inr (3, [.ref bK1, .ref bK2, .int sb, .long cam, .long gma])), (aG, .inr (4, [.ref bG1, .ref bG2, .ref bG3, .ref bG4, .int us, .int mo, .long he, .long gi, .long fl]))]) [0, 1, 2] rfl
            have hD9 := hD.sub (ws' := [(x0, .inr (0, [.ref aS, .ref aT, .ref aK, .ref aG, .ref aP, .ref aL, .int nm])), (aK, .inr (3, [.ref bK1, .ref bK2, .int sb, .long cam, .long gma])), (aG, .inr (4, [.ref bG1, .ref bG2, .ref bG3, .ref bG4, .int us, .int mo, .long he, .long gi, .long fl]))]) [0, 1, 2] (by decide) rfl
            exact W.lret (v := he) hx hb hr (fun t ht hW => ⟨⟨he, (), rfl, by simp only [f_DR_gone, if_neg c1, if_neg c1_2, if_neg c1_3, if_neg c1_4, if_pos c1_5], by rw [ht]; exact hP9, hD9⟩, hS.F ht⟩) hS.2.2 d_DR_gone_75
          · have hsw := trivial
            refine lv_tableOut (tgt := 76) hx hb d_DR_gone_1 (by have t0 := lv_neT (a := 0) c1 (by decide); have t1 := lv_neT (a := 1) c1_2 (by decide); have t2 := lv_neT (a := 2) c1_3 (by decide); have t3 := lv_neT (a := 3) c1_4 (by decide); have t4 := lv_neT (a := 4) c1_5 (by decide); omega) (by decide) ?_
            refine lv_ldc2 hx hb hown (hwg _ kw_237) d_DR_gone_76 ?_
            have hP9 := hP.sub (ws' := [(x0, .inr (0, [.ref aS, .ref aT, .ref aK, .ref aG, .ref aP, .ref aL, .int nm])), (aK, .inr (3, [.ref bK1, .ref bK2, .int sb, .long cam, .long gma])), (aG, .inr (4, [.ref bG1, .ref bG2, .ref bG3, .ref bG4, .int us, .int mo, .long he, .long gi, .long fl]))]) [0, 1, 2] rfl
            have hD9 := hD.sub (ws' := [(x0, .inr (0, [.ref aS, .ref aT, .ref aK, .ref aG, .ref aP, .ref aL, .int nm])), (aK, .inr (3, [.ref bK1, .ref bK2, .int sb, .long cam, .long gma])), (aG, .inr (4, [.ref bG1, .ref bG2, .ref bG3, .ref bG4, .int us, .int mo, .long he, .long gi, .long fl]))]) [0, 1, 2] (by decide) rfl
            exact W.lret (v := (-1)) hx hb hr (fun t ht hW => ⟨⟨(-1), (), rfl, by simp only [f_DR_gone, if_neg c1, if_neg c1_2, if_neg c1_3, if_neg c1_4, if_neg c1_5], by rw [ht]; exact hP9, hD9⟩, hS.F ht⟩) hS.2.2 d_DR_gone_79
def f_DR_balance (cam : Int64) (gma : Int64) (gr : Nat → Int64) (he : Int64) (gi : Int64) (fl : Int64) (p1 : Int32) : Int64 := if p1 = 0 then (let r39 := f_Tank_allParts gr; (cam - r39) - gma) else if p1 = 1 then (((gma - he) - gi) - fl) else ((-1))
abbrev rm_DR_balance : Room := { frames := 1, cells := 0, slots := 0, locals := 23 }
set_option maxHeartbeats 4000000 in
set_option maxRecDepth 100000 in
theorem c_DR_balance (l : Launch) (dC : Nat → ClassId) (dI : Nat → Nat → Nat) (cI cL cZ : ClassId) (x0 aS aT aK aG aP aL bK1 bK2 bG1 bG2 bG3 bG4 : Nat) (sz : Nat) (nm : Int32) (sb : Int32) (cam : Int64) (gma : Int64) (gr : Nat → Int64) (us : Int32) (mo : Int32) (he : Int64) (gi : Int64) (fl : Int64) (p1 : Int32) : Met l y_DR_balance w_DR_balance rm_DR_balance (va_Pc [.ref x0, .int p1] (c_pre dC dI cI cL cZ [(x0, .inr (0, [.ref aS, .ref aT, .ref aK, .ref aG, .ref aP, .ref aL, .int nm])), (aK, .inr (3, [.ref bK1, .ref bK2, .int sb, .long cam, .long gma])), (bK1, .inl (cL, 4, .inr (.inl gr))), (aG, .inr (4, [.ref bG1, .ref bG2, .ref bG3, .ref bG4, .int us, .int mo, .long he, .long gi, .long fl]))] sz)) (va_Ql (fun (r : Int64) (_ : Unit) => f_DR_balance cam gma gr he gi fl p1 = r) (c_post dC dI (fun (u : Unit) => [(x0, .inr (0, [.ref aS, .ref aT, .ref aK, .ref aG, .ref aP, .ref aL, .int nm])), (aK, .inr (3, [.ref bK1, .ref bK2, .int sb, .long cam, .long gma])), (bK1, .inl (cL, 4, .inr (.inl gr))), (aG, .inr (4, [.ref bG1, .ref bG2, .ref bG3, .ref bG4, .int us, .int mo, .long he, .long gi, .long fl]))]) (va_A [(x0, .inr (0, [.ref aS, .ref aT, .ref aK, .ref aG, .ref aP, .ref aL, .int nm])), (aK, .inr (3, [.ref bK1, .ref bK2, .int sb, .long cam, .long gma])), (bK1, .inl (cL, 4, .inr (.inl gr))), (aG, .inr (4, [.ref bG1, .ref bG2, .ref bG3, .ref bG4, .int us, .int mo, .long he, .long gi, .long fl]))] sz)) (va_A [(x0, .inr (0, [.ref aS, .ref aT, .ref aK, .ref aG, .ref aP, .ref aL, .int nm])), (aK, .inr (3, [.ref bK1, .ref bK2, .int sb, .long cam, .long gma])), (bK1, .inl (cL, 4, .inr (.inl gr))), (aG, .inr (4, [.ref bG1, .ref bG2, .ref bG3, .ref bG4, .int us, .int mo, .long he, .long gi, .long fl]))] sz)) 0 0 (va_A [(x0, .inr (0, [.ref aS, .ref aT, .ref aK, .ref aG, .ref aP, .ref aL, .int nm])), (aK, .inr (3, [.ref bK1, .ref bK2, .int sb, .long cam, .long gma])), (bK1, .inl (cL, 4, .inr (.inl gr))), (aG, .inr (4, [.ref bG1, .ref bG2, .ref bG3, .ref bG4, .int us, .int mo, .long he, .long gi, .long fl]))] sz) := by
  refine Met.ofW (cc := b_DR_balance) (maxL := 2) (ret := (some .long)) (by decide) rfl ?_
  intro p e s m args below meth c s₁ B hml hv
  obtain ⟨rfl, hsz, hP, hK, hN, hD0⟩ := hv
  have hx := B.exec
  have hb := B.bytes
  have hr := B.returns
  have hts := atoms_spec (ws := w_DR_balance) B.pre
  have hown : s.vm.findClass R_DR = some m.cls := findClass_of_methodNamed B.named
  have hlocks := B.notSynchronized
  have hwg : ∀ w ∈ wg, w.before ([.ref x0, .int p1] : List Value).toArray s = true := fun w h => hts w (List.mem_cons_of_mem _ h)
  subst hsz
  have hD := hD0.self (sz := s.heap.size)
  generalize hAe : va_A [(x0, .inr (0, [.ref aS, .ref aT, .ref aK, .ref aG, .ref aP, .ref aL, .int nm])), (aK, .inr (3, [.ref bK1, .ref bK2, .int sb, .long cam, .long gma])), (bK1, .inl (cL, 4, .inr (.inl gr))), (aG, .inr (4, [.ref bG1, .ref bG2, .ref bG3, .ref bG4, .int us, .int mo, .long he, .long gi, .long fl]))] s.heap.size = A at hD ⊢
  have hA : ∀ q : Nat, s.heap.size ≤ q → A q := fun q h => by rw [← hAe]; exact Or.inr h
  have hS : va_S A s.heap s.heap [] := va_S.rf
  have hP : va_P (dC, dI) vwCl [(x0, .inr (0, [.ref aS, .ref aT, .ref aK, .ref aG, .ref aP, .ref aL, .int nm])), (aK, .inr (3, [.ref bK1, .ref bK2, .int sb, .long cam, .long gma])), (bK1, .inl (cL, 4, .inr (.inl gr))), (aG, .inr (4, [.ref bG1, .ref bG2, .ref bG3, .ref bG4, .int us, .int mo, .long he, .long gi, .long fl]))] s.heap := hP
  have hl := lv_entry ([.ref x0, .int p1]) (n := 2) (Nat.le_of_ble_eq_true rfl)
  rw [lg_entry_eq]
  generalize (lg_sl ([.ref x0, .int p1]) ++ List.replicate (2 - (lg_sl ([.ref x0, .int p1])).length) Slot.unset).toArray = ls at hl ⊢
  have hl : lv_has ls 2 [(0, .ref x0), (1, .int p1)] := hl
  refine lv_iload_n hx hb d_DR_balance_0 rfl (lv_at hl 1 rfl) ?_
  by_cases c1 : p1 = 0
  · refine lv_lookup (off := 27) (tgt := 28) hx hb d_DR_balance_1 (by decide) (by rw [c1]; decide) (by decide) ?_
    refine lv_aload_n hx hb d_DR_balance_28 rfl (lv_at hl 0 rfl) ?_
    refine va_get (D := (dC, dI)) (ci := 0) (v := .ref aK) (C := R_DR) (T := F_DR) (N := 7) hx hb hwg iu_DR hown hK hP 0 rfl rfl 2 (by decide) (hwg _ kw_94) (fun _ h9 => h9) rfl d_DR_balance_29 ?_
    refine va_getN (D := (dC, dI)) (ci := 3) (v := .long cam) (C := R_Tank) (T := F_Tank) (N := 5) hx hb hwg iu_Tank hown hK hP 1 rfl rfl 3 (by decide) (va_Nw.use rfl (hN _ nk_10)) (fun _ h9 => h9) rfl d_DR_balance_32 ?_
    refine lv_aload_n hx hb d_DR_balance_35 rfl (lv_at hl 0 rfl) ?_
    refine va_get (D := (dC, dI)) (ci := 0) (v := .ref aK) (C := R_DR) (T := F_DR) (N := 7) hx hb hwg iu_DR hown hK hP 0 rfl rfl 2 (by decide) (hwg _ kw_94) (fun _ h9 => h9) rfl d_DR_balance_36 ?_
    have hPc := hP.sub (ws' := [(aK, .inr (3, [.ref bK1, .ref bK2, .int sb, .long cam, .long gma])), (bK1, .inl (cL, 4, .inr (.inl gr)))]) [1, 2] rfl
    have hDc := hD.sub (ws' := [(aK, .inr (3, [.ref bK1, .ref bK2, .int sb, .long cam, .long gma])), (bK1, .inl (cL, 4, .inr (.inl gr)))]) [1, 2] (by decide) rfl
    refine k_calll hP hD hS hA [1, 2] [0, 3] (wc := [(aK, .inr (3, [.ref bK1, .ref bK2, .int sb, .long cam, .long gma])), (bK1, .inl (cL, 4, .inr (.inl gr)))]) (wr := [(x0, .inr (0, [.ref aS, .ref aT, .ref aK, .ref aG, .ref aP, .ref aL, .int nm])), (aG, .inr (4, [.ref bG1, .ref bG2, .ref bG3, .ref bG4, .int us, .int mo, .long he, .long gi, .long fl]))]) rfl rfl (by decide) (by decide) (va_runV (As := []) (rest := [.long cam]) ⟨hx, hb, hml, hown, hwg⟩ (c_Tank_allParts l dC dI cI cL cZ aK bK1 bK2 s.heap.size sb cam gma gr) (cwV 0 hwg (g_V kw_250 kw_251 kw_252 kw_17 kw_253) rfl rfl rfl (by decide +kernel) ⟨Nat.le_of_ble_eq_true rfl, Nat.le_of_ble_eq_true rfl⟩) ⟨c_pre_call, va_recv hK hPc (ci := 3) (q0 := 0) rfl rfl, c_pre_mk hPc hDc hK hN _⟩ rfl rfl hl.1 rfl (lv_room (Nat.le_of_ble_eq_true rfl)) d_DR_balance_39 ⟨Nat.le_of_ble_eq_true rfl, Nat.le_of_ble_eq_true rfl⟩) (fun r39 u H39 locs w39 hz1 hP hD hS => ?_)
    have hP := hP.sub (ws' := [(x0, .inr (0, [.ref aS, .ref aT, .ref aK, .ref aG, .ref aP, .ref aL, .int nm])), (aK, .inr (3, [.ref bK1, .ref bK2, .int sb, .long cam, .long gma])), (bK1, .inl (cL, 4, .inr (.inl gr))), (aG, .inr (4, [.ref bG1, .ref bG2, .ref bG3, .ref bG4, .int us, .int mo, .long he, .long gi, .long fl]))]) [0, 2, 3, 1] rfl
    have hD := hD.sub (ws' := [(x0, .inr (0, [.ref aS, .ref aT, .ref aK, .ref aG, .ref aP, .ref aL, .int nm])), (aK, .inr (3, [.ref bK1, .ref bK2, .int sb, .long cam, .long gma])), (bK1, .inl (cL, 4, .inr (.inl gr))), (aG, .inr (4, [.ref bG1, .ref bG2, .ref bG3, .ref bG4, .int us, .int mo, .long he, .long gi, .long fl]))]) [0, 2, 3, 1] (by decide) rfl
    refine lv_lsub hx hb d_DR_balance_42 ?_
    refine lv_aload_n hx hb d_DR_balance_43 rfl (lv_at hl 0 rfl) ?_
    refine va_get (D := (dC, dI)) (ci := 0) (v := .ref aK) (C := R_DR) (T := F_DR) (N := 7) hx hb hwg iu_DR hown hK hP 0 rfl rfl 2 (by decide) (hwg _ kw_94) (fun _ h9 => h9) rfl d_DR_balance_44 ?_
    refine va_getN (D := (dC, dI)) (ci := 3) (v := .long gma) (C := R_Tank) (T := F_Tank) (N := 5) hx hb hwg iu_Tank hown hK hP 1 rfl rfl 4 (by decide) (va_Nw.use rfl (hN _ nk_11)) (fun _ h9 => h9) rfl d_DR_balance_47 ?_
    refine lv_lsub hx hb d_DR_balance_50 ?_
    have hP9 := hP.sub (ws' := [(x0, .inr (0, [.ref aS, .ref aT, .ref aK, .ref aG, .ref aP, .ref aL, .int nm])), (aK, .inr (3, [.ref bK1, .ref bK2, .int sb, .long cam, .long gma])), (bK1, .inl (cL, 4, .inr (.inl gr))), (aG, .inr (4, [.ref bG1, .ref bG2, .ref bG3, .ref bG4, .int us, .int mo, .long he, .long gi, .long fl]))]) [0, 1, 2, 3] rfl
    have hD9 := hD.sub (ws' := [(x0, .inr (0, [.ref aS, .ref aT, .ref aK, .ref aG, .ref aP, .ref aL, .int nm])), (aK, .inr (3, [.ref bK1, .ref bK2, .int sb, .long cam, .long gma])), (bK1, .inl (cL, 4, .inr (.inl gr))), (aG, .inr (4, [.ref bG1, .ref bG2, .ref bG3, .ref bG4, .int us, .int mo, .long he, .long gi, .long fl]))]) [0, 1, 2, 3] (by decide) rfl
    exact W.lret (v := (cam - r39) - gma) hx hb hr (fun t ht hW => ⟨⟨(cam - r39) - gma, (), rfl, by simp only [f_DR_balance, if_pos c1, w39], by rw [ht]; exact hP9, hD9⟩, hS.F ht⟩) hS.2.2 d_DR_balance_51
  · have hsw := trivial
    by_cases c1_2 : p1 = 1
    · refine lv_lookup (off := 51) (tgt := 52) hx hb d_DR_balance_1 (by decide) (by rw [c1_2]; decide) (by decide) ?_
      refine lv_aload_n hx hb d_DR_balance_52 rfl (lv_at hl 0 rfl) ?_
      refine va_get (D := (dC, dI)) (ci := 0) (v := .ref aK) (C := R_DR) (T := F_DR) (N := 7) hx hb hwg iu_DR hown hK hP 0 rfl rfl 2 (by decide) (hwg _ kw_94) (fun _ h9 => h9) rfl d_DR_balance_53 ?_
      refine va_getN (D := (dC, dI)) (ci := 3) (v := .long gma) (C := R_Tank) (T := F_Tank) (N := 5) hx hb hwg iu_Tank hown hK hP 1 rfl rfl 4 (by decide) (va_Nw.use rfl (hN _ nk_11)) (fun _ h9 => h9) rfl d_DR_balance_56 ?_
      refine lv_aload_n hx hb d_DR_balance_59 rfl (lv_at hl 0 rfl) ?_
      refine va_get (D := (dC, dI)) (ci := 0) (v := .ref aG) (C := R_DR) (T := F_DR) (N := 7) hx hb hwg iu_DR hown hK hP 0 rfl rfl 3 (by decide) (hwg _ kw_95) (fun _ h9 => h9) rfl d_DR_balance_60 ?_
      refine va_getN (D := (dC, dI)) (ci := 4) (v := .long he) (C := R_GasStore) (T := F_GasStore) (N := 9) hx hb hwg iu_GasStore hown hK hP 3 rfl rfl 6 (by decide) (va_Nw.use rfl (hN _ nk_16)) (fun _ h9 => h9) rfl d_DR_balance_63 ?_
      refine lv_lsub hx hb d_DR_balance_66 ?_
      refine lv_aload_n hx hb d_DR_balance_67 rfl (lv_at hl 0 rfl) ?_
      refine va_get (D := (dC, dI)) (ci := 0) (v := .ref aG) (C := R_DR) (T := F_DR) (N := 7) hx hb hwg iu_DR hown hK hP 0 rfl rfl 3 (by decide) (hwg _ kw_95) (fun _ h9 => h9) rfl d_DR_balance_68 ?_
      refine va_getN (D := (dC, dI)) (ci := 4) (v := .long gi) (C := R_GasStore) (T := F_GasStore) (N := 9) hx hb hwg iu_GasStore hown hK hP 3 rfl rfl 7 (by decide) (va_Nw.use rfl (hN _ nk_17)) (fun _ h9 => h9) rfl d_DR_balance_71 ?_
      refine lv_lsub hx hb d_DR_balance_74 ?_
      refine lv_aload_n hx hb d_DR_balance_75 rfl (lv_at hl 0 rfl) ?_
      refine va_get (D := (dC, dI)) (ci := 0) (v := .ref aG) (C := R_DR) (T := F_DR) (N := 7) hx hb hwg iu_DR hown hK hP 0 rfl rfl 3 (by decide) (hwg _ kw_95) (fun _ h9 => h9) rfl d_DR_balance_76 ?_
      refine va_getN (D := (dC, dI)) (ci := 4) (v := .long fl) (C := R_GasStore) (T := F_GasStore) (N := 9) hx hb hwg iu_GasStore hown hK hP 3 rfl rfl 8 (by decide) (va_Nw.use rfl (hN _ nk_18)) (fun _ h9 => h9) rfl d_DR_balance_79 ?_
      refine lv_lsub hx hb d_DR_balance_82 ?_
      have hP9 := hP.sub (ws' := [(x0, .inr (0, [.ref aS, .ref aT, .ref aK, .ref aG, .ref aP, .ref aL, .int nm])), (aK, .inr (3, [.ref bK1, .ref bK2, .int sb, .long cam, .long gma])), (bK1, .inl (cL, 4, .inr (.inl gr))), (aG, .inr (4, [.ref bG1, .ref bG2, .ref bG3, .ref bG4, .int us, .int mo, .long he, .long gi, .long fl]))]) [0, 1, 2, 3] rfl
      have hD9 := hD.sub (ws' := [(x0, .inr (0, [.ref aS, .ref aT, .ref aK, .ref aG, .ref aP, .ref aL, .int nm])), (aK, .inr (3, [.ref bK1, .ref bK2, .int sb, .long cam, .long gma])), (bK1, .inl (cL, 4, .inr (.inl gr))), (aG, .inr (4, [.ref bG1, .ref bG2, .ref bG3, .ref bG4, .int us, .int mo, .long he, .long gi, .long fl]))]) [0, 1, 2, 3] (by decide) rfl
      exact W.lret (v := ((gma - he) - gi) - fl) hx hb hr (fun t ht hW => ⟨⟨((gma - he) - gi) - fl, (), rfl, by simp only [f_DR_balance, if_neg c1, if_pos c1_2], by rw [ht]; exact hP9, hD9⟩, hS.F ht⟩) hS.2.2 d_DR_balance_83
    · have hsw := trivial
      refine lv_lookup (off := 83) (tgt := 84) hx hb d_DR_balance_1 (by decide) ((lv_osw c1 (by decide)).trans ((lv_osw c1_2 (by decide)).trans rfl)) (by decide) ?_
      refine lv_ldc2 hx hb hown (hwg _ kw_237) d_DR_balance_84 ?_
      have hP9 := hP.sub (ws' := [(x0, .inr (0, [.ref aS, .ref aT, .ref aK, .ref aG, .ref aP, .ref aL, .int nm])), (aK, .inr (3, [.ref bK1, .ref bK2, .int sb, .long cam, .long gma])), (bK1, .inl (cL, 4, .inr (.inl gr))), (aG, .inr (4, [.ref bG1, .ref bG2, .ref bG3, .ref bG4, .int us, .int mo, .long he, .long gi, .long fl]))]) [0, 1, 2, 3] rfl
      have hD9 := hD.sub (ws' := [(x0, .inr (0, [.ref aS, .ref aT, .ref aK, .ref aG, .ref aP, .ref aL, .int nm])), (aK, .inr (3, [.ref bK1, .ref bK2, .int sb, .long cam, .long gma])), (bK1, .inl (cL, 4, .inr (.inl gr))), (aG, .inr (4, [.ref bG1, .ref bG2, .ref bG3, .ref bG4, .int us, .int mo, .long he, .long gi, .long fl]))]) [0, 1, 2, 3] (by decide) rfl
      exact W.lret (v := (-1)) hx hb hr (fun t ht hW => ⟨⟨(-1), (), rfl, by simp only [f_DR_balance, if_neg c1, if_neg c1_2], by rw [ht]; exact hP9, hD9⟩, hS.F ht⟩) hS.2.2 d_DR_balance_87
def f_DR_acid (gr : Nat → Int64) : Int32 := let r4 := f_Tank_sourness gr; r4
abbrev rm_DR_acid : Room := { frames := 2, cells := 0, slots := 0, locals := 44 }
set_option maxHeartbeats 4000000 in
set_option maxRecDepth 100000 in
theorem c_DR_acid (l : Launch) (dC : Nat → ClassId) (dI : Nat → Nat → Nat) (cI cL cZ : ClassId) (x0 aS aT aK aG aP aL bK1 bK2 : Nat) (sz : Nat) (nm : Int32) (sb : Int32) (cam : Int64) (gma : Int64) (gr : Nat → Int64) : Met l y_DR_acid w_DR_acid rm_DR_acid (va_Pc [.ref x0] (c_pre dC dI cI cL cZ [(x0, .inr (0, [.ref aS, .ref aT, .ref aK, .ref aG, .ref aP, .ref aL, .int nm])), (aK, .inr (3, [.ref bK1, .ref bK2, .int sb, .long cam, .long gma])), (bK1, .inl (cL, 4, .inr (.inl gr)))] sz)) (va_Qi (fun (r : Int32) (_ : Unit) => f_DR_acid gr = r) (c_post dC dI (fun (u : Unit) => [(x0, .inr (0, [.ref aS, .ref aT, .ref aK, .ref aG, .ref aP, .ref aL, .int nm])), (aK, .inr (3, [.ref bK1, .ref bK2, .int sb, .long cam, .long gma])), (bK1, .inl (cL, 4, .inr (.inl gr)))]) (va_A [(x0, .inr (0, [.ref aS, .ref aT, .ref aK, .ref aG, .ref aP, .ref aL, .int nm])), (aK, .inr (3, [.ref bK1, .ref bK2, .int sb, .long cam, .long gma])), (bK1, .inl (cL, 4, .inr (.inl gr)))] sz)) (va_A [(x0, .inr (0, [.ref aS, .ref aT, .ref aK, .ref aG, .ref aP, .ref aL, .int nm])), (aK, .inr (3, [.ref bK1, .ref bK2, .int sb, .long cam, .long gma])), (bK1, .inl (cL, 4, .inr (.inl gr)))] sz)) 0 0 (va_A [(x0, .inr (0, [.ref aS, .ref aT, .ref aK, .ref aG, .ref aP, .ref aL, .int nm])), (aK, .inr (3, [.ref bK1, .ref bK2, .int sb, .long cam, .long gma])), (bK1, .inl (cL, 4, .inr (.inl gr)))] sz) := by
  refine Met.ofW (cc := b_DR_acid) (maxL := 1) (ret := (some .int)) (by decide) rfl ?_
  intro p e s m args below meth c s₁ B hml hv
  obtain ⟨rfl, hsz, hP, hK, hN, hD0⟩ := hv
  have hx := B.exec
  have hb := B.bytes
  have hr := B.returns
  have hts := atoms_spec (ws := w_DR_acid) B.pre
  have hown : s.vm.findClass R_DR = some m.cls := findClass_of_methodNamed B.named
  have hlocks := B.notSynchronized
  have hwg : ∀ w ∈ wg, w.before ([.ref x0] : List Value).toArray s = true := fun w h => hts w (List.mem_cons_of_mem _ h)
  subst hsz
  have hD := hD0.self (sz := s.heap.size)
  generalize hAe : va_A [(x0, .inr (0, [.ref aS, .ref aT, .ref aK, .ref aG, .ref aP, .ref aL, .int nm])), (aK, .inr (3, [.ref bK1, .ref bK2, .int sb, .long cam, .long gma])), (bK1, .inl (cL, 4, .inr (.inl gr)))] s.heap.size = A at hD ⊢
  have hA : ∀ q : Nat, s.heap.size ≤ q → A q := fun q h => by rw [← hAe]; exact Or.inr h
  have hS : va_S A s.heap s.heap [] := va_S.rf
  have hP : va_P (dC, dI) vwCl [(x0, .inr (0, [.ref aS, .ref aT, .ref aK, .ref aG, .ref aP, .ref aL, .int nm])), (aK, .inr (3, [.ref bK1, .ref bK2, .int sb, .long cam, .long gma])), (bK1, .inl (cL, 4, .inr (.inl gr)))] s.heap := hP
  have hl := lv_entry ([.ref x0]) (n := 1) (Nat.le_of_ble_eq_true rfl)
  rw [lg_entry_eq]
  generalize (lg_sl ([.ref x0]) ++ List.replicate (1 - (lg_sl ([.ref x0])).length) Slot.unset).toArray = ls at hl ⊢
  have hl : lv_has ls 1 [(0, .ref x0)] := hl
  refine lv_aload_n hx hb d_DR_acid_0 rfl (lv_at hl 0 rfl) ?_
  refine va_get (D := (dC, dI)) (ci := 0) (v := .ref aK) (C := R_DR) (T := F_DR) (N := 7) hx hb hwg iu_DR hown hK hP 0 rfl rfl 2 (by decide) (hwg _ kw_94) (fun _ h9 => h9) rfl d_DR_acid_1 ?_
  have hPc := hP.sub (ws' := [(aK, .inr (3, [.ref bK1, .ref bK2, .int sb, .long cam, .long gma])), (bK1, .inl (cL, 4, .inr (.inl gr)))]) [1, 2] rfl
  have hDc := hD.sub (ws' := [(aK, .inr (3, [.ref bK1, .ref bK2, .int sb, .long cam, .long gma])), (bK1, .inl (cL, 4, .inr (.inl gr)))]) [1, 2] (by decide) rfl
  refine k_calli hP hD hS hA [1, 2] [0] (wc := [(aK, .inr (3, [.ref bK1, .ref bK2, .int sb, .long cam, .long gma])), (bK1, .inl (cL, 4, .inr (.inl gr)))]) (wr := [(x0, .inr (0, [.ref aS, .ref aT, .ref aK, .ref aG, .ref aP, .ref aL, .int nm]))]) rfl rfl (by decide) (by decide) (va_runV (As := []) (rest := []) ⟨hx, hb, hml, hown, hwg⟩ (c_Tank_sourness l dC dI cI cL cZ aK bK1 bK2 s.heap.size sb cam gma gr) (cwV 0 hwg (g_V kw_258 kw_259 kw_260 kw_17 kw_261) rfl rfl rfl (by decide +kernel) ⟨Nat.le_of_ble_eq_true rfl, Nat.le_of_ble_eq_true rfl⟩) ⟨c_pre_call, va_recv hK hPc (ci := 3) (q0 := 0) rfl rfl, c_pre_mk hPc hDc hK hN _⟩ rfl rfl hl.1 rfl (lv_room (Nat.le_of_ble_eq_true rfl)) d_DR_acid_4 ⟨Nat.le_of_ble_eq_true rfl, Nat.le_of_ble_eq_true rfl⟩) (fun r4 u H4 locs w4 hz1 hP hD hS => ?_)
  have hP := hP.sub (ws' := [(x0, .inr (0, [.ref aS, .ref aT, .ref aK, .ref aG, .ref aP, .ref aL, .int nm])), (aK, .inr (3, [.ref bK1, .ref bK2, .int sb, .long cam, .long gma])), (bK1, .inl (cL, 4, .inr (.inl gr)))]) [0, 1, 2] rfl
  have hD := hD.sub (ws' := [(x0, .inr (0, [.ref aS, .ref aT, .ref aK, .ref aG, .ref aP, .ref aL, .int nm])), (aK, .inr (3, [.ref bK1, .ref bK2, .int sb, .long cam, .long gma])), (bK1, .inl (cL, 4, .inr (.inl gr)))]) [0, 1, 2] (by decide) rfl
  have hP9 := hP.sub (ws' := [(x0, .inr (0, [.ref aS, .ref aT, .ref aK, .ref aG, .ref aP, .ref aL, .int nm])), (aK, .inr (3, [.ref bK1, .ref bK2, .int sb, .long cam, .long gma])), (bK1, .inl (cL, 4, .inr (.inl gr)))]) [0, 1, 2] rfl
  have hD9 := hD.sub (ws' := [(x0, .inr (0, [.ref aS, .ref aT, .ref aK, .ref aG, .ref aP, .ref aL, .int nm])), (aK, .inr (3, [.ref bK1, .ref bK2, .int sb, .long cam, .long gma])), (bK1, .inl (cL, 4, .inr (.inl gr)))]) [0, 1, 2] (by decide) rfl
  exact W.iret (v := r4) hx hb hr (fun t ht hW => ⟨⟨r4, (), rfl, by simp only [f_DR_acid, w4], by rw [ht]; exact hP9, hD9⟩, hS.F ht⟩) hS.2.2 d_DR_acid_7
def f_DR_sour (pn : Int32) (pk : Nat → Int64) (p1 : Int64) : Int32 := if 0 ≤ (lg_cmp p1 0) then (let r15 := f_AcidPeaks_firstAbove pn pk p1; r15) else ((-1))
abbrev rm_DR_sour : Room := { frames := 1, cells := 0, slots := 0, locals := 25 }
set_option maxHeartbeats 4000000 in
set_option maxRecDepth 100000 in
theorem c_DR_sour (l : Launch) (dC : Nat → ClassId) (dI : Nat → Nat → Nat) (cI cL cZ : ClassId) (x0 aS aT aK aG aP aL bP : Nat) (sz : Nat) (nm : Int32) (pn : Int32) (pl : Nat) (pk : Nat → Int64) (p1 : Int64) (hpn : vp_in pn (pl + 1)) (hpl : pl ≤ 10000) : Met l y_DR_sour w_DR_sour rm_DR_sour (va_Pc [.ref x0, .long p1] (c_pre dC dI cI cL cZ [(x0, .inr (0, [.ref aS, .ref aT, .ref aK, .ref aG, .ref aP, .ref aL, .int nm])), (aP, .inr (5, [.ref bP, .int pn])), (bP, .inl (cL, pl, .inr (.inl pk)))] sz)) (va_Qi (fun (r : Int32) (_ : Unit) => f_DR_sour pn pk p1 = r) (c_post dC dI (fun (u : Unit) => [(x0, .inr (0, [.ref aS, .ref aT, .ref aK, .ref aG, .ref aP, .ref aL, .int nm])), (aP, .inr (5, [.ref bP, .int pn])), (bP, .inl (cL, pl, .inr (.inl pk)))]) (va_A [(x0, .inr (0, [.ref aS, .ref aT, .ref aK, .ref aG, .ref aP, .ref aL, .int nm])), (aP, .inr (5, [.ref bP, .int pn])), (bP, .inl (cL, pl, .inr (.inl pk)))] sz)) (va_A [(x0, .inr (0, [.ref aS, .ref aT, .ref aK, .ref aG, .ref aP, .ref aL, .int nm])), (aP, .inr (5, [.ref bP, .int pn])), (bP, .inl (cL, pl, .inr (.inl pk)))] sz)) 0 0 (va_A [(x0, .inr (0, [.ref aS, .ref aT, .ref aK, .ref aG, .ref aP, .ref aL, .int nm])), (aP, .inr (5, [.ref bP, .int pn])), (bP, .inl (cL, pl, .inr (.inl pk)))] sz) := by
  refine Met.ofW (cc := b_DR_sour) (maxL := 3) (ret := (some .int)) (by decide) rfl ?_
  intro p e s m args below meth c s₁ B hml hv
  obtain ⟨rfl, hsz, hP, hK, hN, hD0⟩ := hv
  have hx := B.exec
  have hb := B.bytes
  have hr := B.returns
  have hts := atoms_spec (ws := w_DR_sour) B.pre
  have hown : s.vm.findClass R_DR = some m.cls := findClass_of_methodNamed B.named
  have hlocks := B.notSynchronized
  have hwg : ∀ w ∈ wg, w.before ([.ref x0, .long p1] : List Value).toArray s = true := fun w h => hts w (List.mem_cons_of_mem _ h)
  subst hsz
  have hD := hD0.self (sz := s.heap.size)
  generalize hAe : va_A [(x0, .inr (0, [.ref aS, .ref aT, .ref aK, .ref aG, .ref aP, .ref aL, .int nm])), (aP, .inr (5, [.ref bP, .int pn])), (bP, .inl (cL, pl, .inr (.inl pk)))] s.heap.size = A at hD ⊢
  have hA : ∀ q : Nat, s.heap.size ≤ q → A q := fun q h => by rw [← hAe]; exact Or.inr h
  have hS : va_S A s.heap s.heap [] := va_S.rf
  have hP : va_P (dC, dI) vwCl [(x0, .inr (0, [.ref aS, .ref aT, .ref aK, .ref aG, .ref aP, .ref aL, .int nm])), (aP, .inr (5, [.ref bP, .int pn])), (bP, .inl (cL, pl, .inr (.inl pk)))] s.heap := hP
  have hl := lv_entry ([.ref x0, .long p1]) (n := 3) (Nat.le_of_ble_eq_true rfl)
  rw [lg_entry_eq]
  generalize (lg_sl ([.ref x0, .long p1]) ++ List.replicate (3 - (lg_sl ([.ref x0, .long p1])).length) Slot.unset).toArray = ls at hl ⊢
  have hl : lv_has ls 3 [(0, .ref x0), (1, .long p1)] := hl
  refine lv_lload_n hx hb d_DR_sour_0 rfl (lv_at hl 1 rfl) ?_
  refine lv_lconst (v := 0) hx hb d_DR_sour_1 (by decide) ?_
  refine W.lcmp hx hb d_DR_sour_2 ?_
  refine lv_if_ge (tgt := 10) hx hb d_DR_sour_3 (by decide) (fun (c3 : 0 ≤ (lg_cmp p1 0)) => ?_) (fun (c3 : ¬ (0 ≤ (lg_cmp p1 0))) => ?_)
  · refine lv_aload_n hx hb d_DR_sour_10 rfl (lv_at hl 0 rfl) ?_
    refine va_get (D := (dC, dI)) (ci := 0) (v := .ref aP) (C := R_DR) (T := F_DR) (N := 7) hx hb hwg iu_DR hown hK hP 0 rfl rfl 4 (by decide) (hwg _ kw_96) (fun _ h9 => h9) rfl d_DR_sour_11 ?_
    refine lv_lload_n hx hb d_DR_sour_14 rfl (lv_at hl 1 rfl) ?_
    have hPc := hP.sub (ws' := [(aP, .inr (5, [.ref bP, .int pn])), (bP, .inl (cL, pl, .inr (.inl pk)))]) [1, 2] rfl
    have hDc := hD.sub (ws' := [(aP, .inr (5, [.ref bP, .int pn])), (bP, .inl (cL, pl, .inr (.inl pk)))]) [1, 2] (by decide) rfl
    refine k_calli hP hD hS hA [1, 2] [0] (wc := [(aP, .inr (5, [.ref bP, .int pn])), (bP, .inl (cL, pl, .inr (.inl pk)))]) (wr := [(x0, .inr (0, [.ref aS, .ref aT, .ref aK, .ref aG, .ref aP, .ref aL, .int nm]))]) rfl rfl (by decide) (by decide) (va_runV (As := [.long p1]) (rest := []) ⟨hx, hb, hml, hown, hwg⟩ (c_AcidPeaks_firstAbove l dC dI cI cL cZ aP bP s.heap.size pn pl pk p1 hpn hpl) (cwV 1 hwg (g_V kw_271 kw_272 kw_273 kw_19 kw_274) rfl rfl rfl (by decide +kernel) ⟨Nat.le_of_ble_eq_true rfl, Nat.le_of_ble_eq_true rfl⟩) ⟨c_pre_call, va_recv hK hPc (ci := 5) (q0 := 0) rfl rfl, c_pre_mk hPc hDc hK hN _⟩ rfl rfl hl.1 rfl (lv_room (Nat.le_of_ble_eq_true rfl)) d_DR_sour_15 ⟨Nat.le_of_ble_eq_true rfl, Nat.le_of_ble_eq_true rfl⟩) (fun r15 u H15 locs w15 hz1 hP hD hS => ?_)
    have hP := hP.sub (ws' := [(x0, .inr (0, [.ref aS, .ref aT, .ref aK, .ref aG, .ref aP, .ref aL, .int nm])), (aP, .inr (5, [.ref bP, .int pn])), (bP, .inl (cL, pl, .inr (.inl pk)))]) [0, 1, 2] rfl
    have hD := hD.sub (ws' := [(x0, .inr (0, [.ref aS, .ref aT, .ref aK, .ref aG, .ref aP, .ref aL, .int nm])), (aP, .inr (5, [.ref bP, .int pn])), (bP, .inl (cL, pl, .inr (.inl pk)))]) [0, 1, 2] (by decide) rfl
    have hP9 := hP.sub (ws' := [(x0, .inr (0, [.ref aS, .ref aT, .ref aK, .ref aG, .ref aP, .ref aL, .int nm])), (aP, .inr (5, [.ref bP, .int pn])), (bP, .inl (cL, pl, .inr (.inl pk)))]) [0, 1, 2] rfl
    have hD9 := hD.sub (ws' := [(x0, .inr (0, [.ref aS, .ref aT, .ref aK, .ref aG, .ref aP, .ref aL, .int nm])), (aP, .inr (5, [.ref bP, .int pn])), (bP, .inl (cL, pl, .inr (.inl pk)))]) [0, 1, 2] (by decide) rfl
    exact W.iret (v := r15) hx hb hr (fun t ht hW => ⟨⟨r15, (), rfl, by simp only [f_DR_sour, if_pos c3, w15], by rw [ht]; exact hP9, hD9⟩, hS.F ht⟩) hS.2.2 d_DR_sour_18
  · refine lv_iconst (v := (-1)) hx hb d_DR_sour_6 (by decide) ?_
    refine lv_goto (tgt := 18) hx hb d_DR_sour_7 (by decide) ?_
    have hP9 := hP.sub (ws' := [(x0, .inr (0, [.ref aS, .ref aT, .ref aK, .ref aG, .ref aP, .ref aL, .int nm])), (aP, .inr (5, [.ref bP, .int pn])), (bP, .inl (cL, pl, .inr (.inl pk)))]) [0, 1, 2] rfl
    have hD9 := hD.sub (ws' := [(x0, .inr (0, [.ref aS, .ref aT, .ref aK, .ref aG, .ref aP, .ref aL, .int nm])), (aP, .inr (5, [.ref bP, .int pn])), (bP, .inl (cL, pl, .inr (.inl pk)))]) [0, 1, 2] (by decide) rfl
    exact W.iret (v := (-1)) hx hb hr (fun t ht hW => ⟨⟨(-1), (), rfl, by simp only [f_DR_sour, if_neg c3], by rw [ht]; exact hP9, hD9⟩, hS.F ht⟩) hS.2.2 d_DR_sour_18
def f_DR_load (lg : Nat → Int32) (lc : Nat → Int32) (lx : Nat → Int32) (p1 : Int32) (p2 : Int32) (p3 : Int32) (p4 : Int32) : Int32 × (Nat → Int32) × (Nat → Int32) × (Nat → Int32) := let r1 := f_DR_isKind p1; if r1 = 0 then ((0, lg, lc, lx)) else (let r11 := f_DR_within p2 1 100000; if r11 = 0 then ((0, lg, lc, lx)) else (let r21 := f_DR_within p3 0 100000; if r21 = 0 then ((0, lg, lc, lx)) else (let r32 := f_DR_within p4 0 100000; if r32 = 0 then ((0, lg, lc, lx)) else (match f_Planner_setLoad lg lc lx p1 p2 p3 p4 with | (lg_49, lc_49, lx_49) => (1, lg_49, lc_49, lx_49)))))
abbrev rm_DR_load : Room := { frames := 2, cells := 0, slots := 0, locals := 42 }
set_option maxHeartbeats 4000000 in
set_option maxRecDepth 100000 in
theorem c_DR_load (l : Launch) (dC : Nat → ClassId) (dI : Nat → Nat → Nat) (cI cL cZ : ClassId) (x0 aS aT aK aG aP aL bL1 bL2 bL3 bL4 : Nat) (sz : Nat) (nm : Int32) (fo : Int32) (lg : Nat → Int32) (lc : Nat → Int32) (lx : Nat → Int32) (p1 : Int32) (p2 : Int32) (p3 : Int32) (p4 : Int32) : Met l y_DR_load w_DR_load rm_DR_load (va_Pc [.ref x0, .int p1, .int p2, .int p3, .int p4] (c_pre dC dI cI cL cZ [(x0, .inr (0, [.ref aS, .ref aT, .ref aK, .ref aG, .ref aP, .ref aL, .int nm])), (aL, .inr (6, [.ref bL1, .ref bL2, .ref bL3, .ref bL4, .int fo])), (bL1, .inl (cI, 4, .inl lg)), (bL2, .inl (cI, 4, .inl lc)), (bL3, .inl (cI, 4, .inl lx))] sz)) (va_Qi (fun (r : Int32) (u : (Nat → Int32) × (Nat → Int32) × (Nat → Int32)) => f_DR_load lg lc lx p1 p2 p3 p4 = (r, u)) (c_post dC dI (fun (u : (Nat → Int32) × (Nat → Int32) × (Nat → Int32)) => [(x0, .inr (0, [.ref aS, .ref aT, .ref aK, .ref aG, .ref aP, .ref aL, .int nm])), (aL, .inr (6, [.ref bL1, .ref bL2, .ref bL3, .ref bL4, .int fo])), (bL1, .inl (cI, 4, .inl u.1)), (bL2, .inl (cI, 4, .inl u.2.1)), (bL3, .inl (cI, 4, .inl u.2.2))]) (va_A [(x0, .inr (0, [.ref aS, .ref aT, .ref aK, .ref aG, .ref aP, .ref aL, .int nm])), (aL, .inr (6, [.ref bL1, .ref bL2, .ref bL3, .ref bL4, .int fo])), (bL1, .inl (cI, 4, .inl lg)), (bL2, .inl (cI, 4, .inl lc)), (bL3, .inl (cI, 4, .inl lx))] sz)) (va_A [(x0, .inr (0, [.ref aS, .ref aT, .ref aK, .ref aG, .ref aP, .ref aL, .int nm])), (aL, .inr (6, [.ref bL1, .ref bL2, .ref bL3, .ref bL4, .int fo])), (bL1, .inl (cI, 4, .inl lg)), (bL2, .inl (cI, 4, .inl lc)), (bL3, .inl (cI, 4, .inl lx))] sz)) 0 0 (va_A [(x0, .inr (0, [.ref aS, .ref aT, .ref aK, .ref aG, .ref aP, .ref aL, .int nm])), (aL, .inr (6, [.ref bL1, .ref bL2, .ref bL3, .ref bL4, .int fo])), (bL1, .inl (cI, 4, .inl lg)), (bL2, .inl (cI, 4, .inl lc)), (bL3, .inl (cI, 4, .inl lx))] sz) := by
  refine Met.ofW (cc := b_DR_load) (maxL := 5) (ret := (some .boolean)) (by decide) rfl ?_
  intro p e s m args below meth c s₁ B hml hv
  obtain ⟨rfl, hsz, hP, hK, hN, hD0⟩ := hv
  have hx := B.exec
  have hb := B.bytes
  have hr := B.returns
  have hts := atoms_spec (ws := w_DR_load) B.pre
  have hown : s.vm.findClass R_DR = some m.cls := findClass_of_methodNamed B.named
  have hlocks := B.notSynchronized
  have hwg : ∀ w ∈ wg, w.before ([.ref x0, .int p1, .int p2, .int p3, .int p4] : List Value).toArray s = true := fun w h => hts w (List.mem_cons_of_mem _ h)
  subst hsz
  have hD := hD0.self (sz := s.heap.size)
  generalize hAe : va_A [(x0, .inr (0, [.ref aS, .ref aT, .ref aK, .ref aG, .ref aP, .ref aL, .int nm])), (aL, .inr (6, [.ref bL1, .ref bL2, .ref bL3, .ref bL4, .int fo])), (bL1, .inl (cI, 4, .inl lg)), (bL2, .inl (cI, 4, .inl lc)), (bL3, .inl (cI, 4, .inl lx))] s.heap.size = A at hD ⊢
  have hA : ∀ q : Nat, s.heap.size ≤ q → A q := fun q h => by rw [← hAe]; exact Or.inr h
  have hS : va_S A s.heap s.heap [] := va_S.rf
  have hP : va_P (dC, dI) vwCl [(x0, .inr (0, [.ref aS, .ref aT, .ref aK, .ref aG, .ref aP, .ref aL, .int nm])), (aL, .inr (6, [.ref bL1, .ref bL2, .ref bL3, .ref bL4, .int fo])), (bL1, .inl (cI, 4, .inl lg)), (bL2, .inl (cI, 4, .inl lc)), (bL3, .inl (cI, 4, .inl lx))] s.heap := hP
  have hl := lv_entry ([.ref x0, .int p1, .int p2, .int p3, .int p4]) (n := 5) (Nat.le_of_ble_eq_true rfl)
  rw [lg_entry_eq]
  generalize (lg_sl ([.ref x0, .int p1, .int p2, .int p3, .int p4]) ++ List.replicate (5 - (lg_sl ([.ref x0, .int p1, .int p2, .int p3, .int p4])).length) Slot.unset).toArray = ls at hl ⊢
  have hl : lv_has ls 5 [(0, .ref x0), (1, .int p1), (2, .int p2), (3, .int p3), (4, .int p4)] := hl
  refine lv_iload_n hx hb d_DR_load_0 rfl (lv_at hl 1 rfl) ?_
  have hPc := hP.sub (ws' := []) [] rfl
  have hDc := hD.sub (ws' := []) [] (by decide) rfl
  refine k_calli hP hD hS hA [] [0, 1, 2, 3, 4] (wc := []) (wr := [(x0, .inr (0, [.ref aS, .ref aT, .ref aK, .ref aG, .ref aP, .ref aL, .int nm])), (aL, .inr (6, [.ref bL1, .ref bL2, .ref bL3, .ref bL4, .int fo])), (bL1, .inl (cI, 4, .inl lg)), (bL2, .inl (cI, 4, .inl lc)), (bL3, .inl (cI, 4, .inl lx))]) rfl rfl (by decide) (by decide) (va_runS (As := [.int p1]) (rest := []) ⟨hx, hb, hml, hown, hwg⟩ (c_DR_isKind l dC dI cI cL cZ s.heap.size p1) (va_cwS 1 hwg (g_S kw_103 kw_104 kw_14 kw_105) rfl rfl rfl (by decide +kernel) ⟨Nat.le_of_ble_eq_true rfl, Nat.le_of_ble_eq_true rfl⟩) ⟨c_pre_call, c_pre_mk hPc hDc hK hN _⟩ rfl rfl hl.1 rfl (lv_room (Nat.le_of_ble_eq_true rfl)) d_DR_load_1 ⟨Nat.le_of_ble_eq_true rfl, Nat.le_of_ble_eq_true rfl⟩) (fun r1 u H1 locs w1 hz1 hP hD hS => ?_)
  have hP := hP.sub (ws' := [(x0, .inr (0, [.ref aS, .ref aT, .ref aK, .ref aG, .ref aP, .ref aL, .int nm])), (aL, .inr (6, [.ref bL1, .ref bL2, .ref bL3, .ref bL4, .int fo])), (bL1, .inl (cI, 4, .inl lg)), (bL2, .inl (cI, 4, .inl lc)), (bL3, .inl (cI, 4, .inl lx))]) [0, 1, 2, 3, 4] rfl
  have hD := hD.sub (ws' := [(x0, .inr (0, [.ref aS, .ref aT, .ref aK, .ref aG, .ref aP, .ref aL, .int nm])), (aL, .inr (6, [.ref bL1, .ref bL2, .ref bL3, .ref bL4, .int fo])), (bL1, .inl (cI, 4, .inl lg)), (bL2, .inl (cI, 4, .inl lc)), (bL3, .inl (cI, 4, .inl lx))]) [0, 1, 2, 3, 4] (by decide) rfl
  refine lv_if_eq (tgt := 38) hx hb d_DR_load_4 (by decide) (fun (c4 : r1 = 0) => ?_) (fun (c4 : ¬ (r1 = 0)) => ?_)
  · refine lv_iconst (v := 0) hx hb d_DR_load_38 (by decide) ?_
    have hP9 := hP.sub (ws' := [(x0, .inr (0, [.ref aS, .ref aT, .ref aK, .ref aG, .ref aP, .ref aL, .int nm])), (aL, .inr (6, [.ref bL1, .ref bL2, .ref bL3, .ref bL4, .int fo])), (bL1, .inl (cI, 4, .inl lg)), (bL2, .inl (cI, 4, .inl lc)), (bL3, .inl (cI, 4, .inl lx))]) [0, 1, 2, 3, 4] rfl
    have hD9 := hD.sub (ws' := [(x0, .inr (0, [.ref aS, .ref aT, .ref aK, .ref aG, .ref aP, .ref aL, .int nm])), (aL, .inr (6, [.ref bL1, .ref bL2, .ref bL3, .ref bL4, .int fo])), (bL1, .inl (cI, 4, .inl lg)), (bL2, .inl (cI, 4, .inl lc)), (bL3, .inl (cI, 4, .inl lx))]) [0, 1, 2, 3, 4] (by decide) rfl
    exact W.zret (ty := .boolean) (v := 0) hx hb hr rfl (fun t ht hW => ⟨⟨0, (lg, lc, lx), rfl, by simp only [f_DR_load, w1, if_pos c4], by rw [ht]; exact hP9, hD9⟩, hS.F ht⟩) hS.2.2 d_DR_load_39
  · refine lv_iload_n hx hb d_DR_load_7 rfl (lv_at hl 2 rfl) ?_
    refine lv_iconst (v := 1) hx hb d_DR_load_8 (by decide) ?_
    refine lv_ldc hx hb hown (hwg _ kw_134) d_DR_load_9 ?_
    have hPc := hP.sub (ws' := []) [] rfl
    have hDc := hD.sub (ws' := []) [] (by decide) rfl
    refine k_calli hP hD hS hA [] [0, 1, 2, 3, 4] (wc := []) (wr := [(x0, .inr (0, [.ref aS, .ref aT, .ref aK, .ref aG, .ref aP, .ref aL, .int nm])), (aL, .inr (6, [.ref bL1, .ref bL2, .ref bL3, .ref bL4, .int fo])), (bL1, .inl (cI, 4, .inl lg)), (bL2, .inl (cI, 4, .inl lc)), (bL3, .inl (cI, 4, .inl lx))]) rfl rfl (by decide) (by decide) (va_runS (As := [.int p2, .int 1, .int 100000]) (rest := []) ⟨hx, hb, hml, hown, hwg⟩ (c_DR_within l dC dI cI cL cZ H1.size p2 1 100000) (va_cwS 3 hwg (g_S kw_106 kw_107 kw_14 kw_108) rfl rfl rfl (by decide +kernel) ⟨Nat.le_of_ble_eq_true rfl, Nat.le_of_ble_eq_true rfl⟩) ⟨c_pre_call, c_pre_mk hPc hDc hK hN _⟩ rfl rfl hl.1 rfl (lv_room (Nat.le_of_ble_eq_true rfl)) d_DR_load_11 ⟨Nat.le_of_ble_eq_true rfl, Nat.le_of_ble_eq_true rfl⟩) (fun r11 u H11 locs w11 hz1 hP hD hS => ?_)
    have hP := hP.sub (ws' := [(x0, .inr (0, [.ref aS, .ref aT, .ref aK, .ref aG, .ref aP, .ref aL, .int nm])), (aL, .inr (6, [.ref bL1, .ref bL2, .ref bL3, .ref bL4, .int fo])), (bL1, .inl (cI, 4, .inl lg)), (bL2, .inl (cI, 4, .inl lc)), (bL3, .inl (cI, 4, .inl lx))]) [0, 1, 2, 3, 4] rfl
    have hD := hD.sub (ws' := [(x0, .inr (0, [.ref aS, .ref aT, .ref aK, .ref aG, .ref aP, .ref aL, .int nm])), (aL, .inr (6, [.ref bL1, .ref bL2, .ref bL3, .ref bL4, .int fo])), (bL1, .inl (cI, 4, .inl lg)), (bL2, .inl (cI, 4, .inl lc)), (bL3, .inl (cI, 4, .inl lx))]) [0, 1, 2, 3, 4] (by decide) rfl
    refine lv_if_eq (tgt := 38) hx hb d_DR_load_14 (by decide) (fun (c14 : r11 = 0) => ?_) (fun (c14 : ¬ (r11 = 0)) => ?_)
    · refine lv_iconst (v := 0) hx hb d_DR_load_38 (by decide) ?_
      have hP9 := hP.sub (ws' := [(x0, .inr (0, [.ref aS, .ref aT, .ref aK, .ref aG, .ref aP, .ref aL, .int nm])), (aL, .inr (6, [.ref bL1, .ref bL2, .ref bL3, .ref bL4, .int fo])), (bL1, .inl (cI, 4, .inl lg)), (bL2, .inl (cI, 4, .inl lc)), (bL3, .inl (cI, 4, .inl lx))]) [0, 1, 2, 3, 4] rfl
      have hD9 := hD.sub (ws' := [(x0, .inr (0, [.ref aS, .ref aT, .ref aK, .ref aG, .ref aP, .ref aL, .int nm])), (aL, .inr (6, [.ref bL1, .ref bL2, .ref bL3, .ref bL4, .int fo])), (bL1, .inl (cI, 4, .inl lg)), (bL2, .inl (cI, 4, .inl lc)), (bL3, .inl (cI, 4, .inl lx))]) [0, 1, 2, 3, 4] (by decide) rfl
      exact W.zret (ty := .boolean) (v := 0) hx hb hr rfl (fun t ht hW => ⟨⟨0, (lg, lc, lx), rfl, by simp only [f_DR_load, w1, if_neg c4, w11, if_pos c14], by rw [ht]; exact hP9, hD9⟩, hS.F ht⟩) hS.2.2 d_DR_load_39
    · refine lv_iload_n hx hb d_DR_load_17 rfl (lv_at hl 3 rfl) ?_
      refine lv_iconst (v := 0) hx hb d_DR_load_18 (by decide) ?_
      refine lv_ldc hx hb hown (hwg _ kw_134) d_DR_load_19 ?_
      have hPc := hP.sub (ws' := []) [] rfl
      have hDc := hD.sub (ws' := []) [] (by decide) rfl
      refine k_calli hP hD hS hA [] [0, 1, 2, 3, 4] (wc := []) (wr := [(x0, .inr (0, [.ref aS, .ref aT, .ref aK, .ref aG, .ref aP, .ref aL, .int nm])), (aL, .inr (6, [.ref bL1, .ref bL2, .ref bL3, .ref bL4, .int fo])), (bL1, .inl (cI, 4, .inl lg)), (bL2, .inl (cI, 4, .inl lc)), (bL3, .inl (cI, 4, .inl lx))]) rfl rfl (by decide) (by decide) (va_runS (As := [.int p3, .int 0, .int 100000]) (rest := []) ⟨hx, hb, hml, hown, hwg⟩ (c_DR_within l dC dI cI cL cZ H11.size p3 0 100000) (va_cwS 3 hwg (g_S kw_106 kw_107 kw_14 kw_108) rfl rfl rfl (by decide +kernel) ⟨Nat.le_of_ble_eq_true rfl, Nat.le_of_ble_eq_true rfl⟩) ⟨c_pre_call, c_pre_mk hPc hDc hK hN _⟩ rfl rfl hl.1 rfl (lv_room (Nat.le_of_ble_eq_true rfl)) d_DR_load_21 ⟨Nat.le_of_ble_eq_true rfl, Nat.le_of_ble_eq_true rfl⟩) (fun r21 u H21 locs w21 hz1 hP hD hS => ?_)
      have hP := hP.sub (ws' := [(x0, .inr (0, [.ref aS, .ref aT, .ref aK, .ref aG, .ref aP, .ref aL, .int nm])), (aL, .inr (6, [.ref bL1, .ref bL2, .ref bL3, .ref bL4, .int fo])), (bL1, .inl (cI, 4, .inl lg)), (bL2, .inl (cI, 4, .inl lc)), (bL3, .inl (cI, 4, .inl lx))]) [0, 1, 2, 3, 4] rfl
      have hD := hD.sub (ws' := [(x0, .inr (0, [.ref aS, .ref aT, .ref aK, .ref aG, .ref aP, .ref aL, .int nm])), (aL, .inr (6, [.ref bL1, .ref bL2, .ref bL3, .ref bL4, .int fo])), (bL1, .inl (cI, 4, .inl lg)), (bL2, .inl (cI, 4, .inl lc)), (bL3, .inl (cI, 4, .inl lx))]) [0, 1, 2, 3, 4] (by decide) rfl
      refine lv_if_eq (tgt := 38) hx hb d_DR_load_24 (by decide) (fun (c24 : r21 = 0) => ?_) (fun (c24 : ¬ (r21 = 0)) => ?_)
      · refine lv_iconst (v := 0) hx hb d_DR_load_38 (by decide) ?_
        have hP9 := hP.sub (ws' := [(x0, .inr (0, [.ref aS, .ref aT, .ref aK, .ref aG, .ref aP, .ref aL, .int nm])), (aL, .inr (6, [.ref bL1, .ref bL2, .ref bL3, .ref bL4, .int fo])), (bL1, .inl (cI, 4, .inl lg)), (bL2, .inl (cI, 4, .inl lc)), (bL3, .inl (cI, 4, .inl lx))]) [0, 1, 2, 3, 4] rfl
        have hD9 := hD.sub (ws' := [(x0, .inr (0, [.ref aS, .ref aT, .ref aK, .ref aG, .ref aP, .ref aL, .int nm])), (aL, .inr (6, [.ref bL1, .ref bL2, .ref bL3, .ref bL4, .int fo])), (bL1, .inl (cI, 4, .inl lg)), (bL2, .inl (cI, 4, .inl lc)), (bL3, .inl (cI, 4, .inl lx))]) [0, 1, 2, 3, 4] (by decide) rfl
        exact W.zret (ty := .boolean) (v := 0) hx hb hr rfl (fun t ht hW => ⟨⟨0, (lg, lc, lx), rfl, by simp only [f_DR_load, w1, if_neg c4, w11, if_neg c14, w21, if_pos c24], by rw [ht]; exact hP9, hD9⟩, hS.F ht⟩) hS.2.2 d_DR_load_39
      · refine lv_iload hx hb d_DR_load_27 (lv_at hl 4 rfl) ?_
        refine lv_iconst (v := 0) hx hb d_DR_load_29 (by decide) ?_
        refine lv_ldc hx hb hown (hwg _ kw_134) d_DR_load_30 ?_
        have hPc := hP.sub (ws' := []) [] rfl
        have hDc := hD.sub (ws' := []) [] (by decide) rfl
        refine k_calli hP hD hS hA [] [0, 1, 2, 3, 4] (wc := []) (wr := [(x0, .inr (0, [.ref aS, .ref aT, .ref aK, .ref aG, .ref aP, .ref aL, .int nm])), (aL, .inr (6, [.ref bL1, .ref bL2, .ref bL3, .ref bL4, .int fo])), (bL1, .inl (cI, 4, .inl lg)), (bL2, .inl (cI, 4, .inl lc)), (bL3, .inl (cI, 4, .inl lx))]) rfl rfl (by decide) (by decide) (va_runS (As := [.int p4, .int 0, .int 100000]) (rest := []) ⟨hx, hb, hml, hown, hwg⟩ (c_DR_within l dC dI cI cL cZ H21.size p4 0 100000) (va_cwS 3 hwg (g_S kw_106 kw_107 kw_14 kw_108) rfl rfl rfl (by decide +kernel) ⟨Nat.le_of_ble_eq_true rfl, Nat.le_of_ble_eq_true rfl⟩) ⟨c_pre_call, c_pre_mk hPc hDc hK hN _⟩ rfl rfl hl.1 rfl (lv_room (Nat.le_of_ble_eq_true rfl)) d_DR_load_32 ⟨Nat.le_of_ble_eq_true rfl, Nat.le_of_ble_eq_true rfl⟩) (fun r32 u H32 locs w32 hz1 hP hD hS => ?_)
        have hP := hP.sub (ws' := [(x0, .inr (0, [.ref aS, .ref aT, .ref aK, .ref aG, .ref aP, .ref aL, .int nm])), (aL, .inr (6, [.ref bL1, .ref bL2, .ref bL3, .ref bL4, .int fo])), (bL1, .inl (cI, 4, .inl lg)), (bL2, .inl (cI, 4, .inl lc)), (bL3, .inl (cI, 4, .inl lx))]) [0, 1, 2, 3, 4] rfl
        have hD := hD.sub (ws' := [(x0, .inr (0, [.ref aS, .ref aT, .ref aK, .ref aG, .ref aP, .ref aL, .int nm])), (aL, .inr (6, [.ref bL1, .ref bL2, .ref bL3, .ref bL4, .int fo])), (bL1, .inl (cI, 4, .inl lg)), (bL2, .inl (cI, 4, .inl lc)), (bL3, .inl (cI, 4, .inl lx))]) [0, 1, 2, 3, 4] (by decide) rfl
        refine lv_if_ne (tgt := 40) hx hb d_DR_load_35 (by decide) (fun (c35 : ¬ (r32 = 0)) => ?_) (fun (c35 : r32 = 0) => ?_)
        · refine lv_aload_n hx hb d_DR_load_40 rfl (lv_at hl 0 rfl) ?_
          refine va_get (D := (dC, dI)) (ci := 0) (v := .ref aL) (C := R_DR) (T := F_DR) (N := 7) hx hb hwg iu_DR hown hK hP 0 rfl rfl 5 (by decide) (hwg _ kw_97) (fun _ h9 => h9) rfl d_DR_load_41 ?_
          refine lv_iload_n hx hb d_DR_load_44 rfl (lv_at hl 1 rfl) ?_
          refine lv_iload_n hx hb d_DR_load_45 rfl (lv_at hl 2 rfl) ?_
          refine lv_iload_n hx hb d_DR_load_46 rfl (lv_at hl 3 rfl) ?_
          refine lv_iload hx hb d_DR_load_47 (lv_at hl 4 rfl) ?_
          have hPc := hP.sub (ws' := [(aL, .inr (6, [.ref bL1, .ref bL2, .ref bL3, .ref bL4, .int fo])), (bL1, .inl (cI, 4, .inl lg)), (bL2, .inl (cI, 4, .inl lc)), (bL3, .inl (cI, 4, .inl lx))]) [1, 2, 3, 4] rfl
          have hDc := hD.sub (ws' := [(aL, .inr (6, [.ref bL1, .ref bL2, .ref bL3, .ref bL4, .int fo])), (bL1, .inl (cI, 4, .inl lg)), (bL2, .inl (cI, 4, .inl lc)), (bL3, .inl (cI, 4, .inl lx))]) [1, 2, 3, 4] (by decide) rfl
          refine k_callv hP hD hS hA [1, 2, 3, 4] [0] (wc := [(aL, .inr (6, [.ref bL1, .ref bL2, .ref bL3, .ref bL4, .int fo])), (bL1, .inl (cI, 4, .inl lg)), (bL2, .inl (cI, 4, .inl lc)), (bL3, .inl (cI, 4, .inl lx))]) (wr := [(x0, .inr (0, [.ref aS, .ref aT, .ref aK, .ref aG, .ref aP, .ref aL, .int nm]))]) rfl rfl (by decide) (by decide) (va_runV (As := [.int p1, .int p2, .int p3, .int p4]) (rest := []) ⟨hx, hb, hml, hown, hwg⟩ (c_Planner_setLoad l dC dI cI cL cZ aL bL1 bL2 bL3 bL4 H32.size fo lg lc lx p1 p2 p3 p4 (in_isKind w1 c4)) (cwV 4 hwg (g_V kw_279 kw_280 kw_281 kw_20 kw_282) rfl rfl rfl (by decide +kernel) ⟨Nat.le_of_ble_eq_true rfl, Nat.le_of_ble_eq_true rfl⟩) ⟨c_pre_call, va_recv hK hPc (ci := 6) (q0 := 0) rfl rfl, c_pre_mk hPc hDc hK hN _⟩ rfl rfl hl.1 rfl (lv_room (Nat.le_of_ble_eq_true rfl)) d_DR_load_49 ⟨Nat.le_of_ble_eq_true rfl, Nat.le_of_ble_eq_true rfl⟩) (fun u H49 locs w49 hz1 hP hD hS => ?_)
          obtain ⟨lg_49, lc_49, lx_49⟩ := u
          have hP := hP.sub (ws' := [(x0, .inr (0, [.ref aS, .ref aT, .ref aK, .ref aG, .ref aP, .ref aL, .int nm])), (aL, .inr (6, [.ref bL1, .ref bL2, .ref bL3, .ref bL4, .int fo])), (bL1, .inl (cI, 4, .inl lg_49)), (bL2, .inl (cI, 4, .inl lc_49)), (bL3, .inl (cI, 4, .inl lx_49))]) [0, 1, 2, 3, 4] rfl
          have hD := hD.sub (ws' := [(x0, .inr (0, [.ref aS, .ref aT, .ref aK, .ref aG, .ref aP, .ref aL, .int nm])), (aL, .inr (6, [.ref bL1, .ref bL2, .ref bL3, .ref bL4, .int fo])), (bL1, .inl (cI, 4, .inl lg_49)), (bL2, .inl (cI, 4, .inl lc_49)), (bL3, .inl (cI, 4, .inl lx_49))]) [0, 1, 2, 3, 4] (by decide) rfl
          refine lv_iconst (v := 1) hx hb d_DR_load_52 (by decide) ?_
          have hP9 := hP.sub (ws' := [(x0, .inr (0, [.ref aS, .ref aT, .ref aK, .ref aG, .ref aP, .ref aL, .int nm])), (aL, .inr (6, [.ref bL1, .ref bL2, .ref bL3, .ref bL4, .int fo])), (bL1, .inl (cI, 4, .inl lg_49)), (bL2, .inl (cI, 4, .inl lc_49)), (bL3, .inl (cI, 4, .inl lx_49))]) [0, 1, 2, 3, 4] rfl
          have hD9 := hD.sub (ws' := [(x0, .inr (0, [.ref aS, .ref aT, .ref aK, .ref aG, .ref aP, .ref aL, .int nm])), (aL, .inr (6, [.ref bL1, .ref bL2, .ref bL3, .ref bL4, .int fo])), (bL1, .inl (cI, 4, .inl lg_49)), (bL2, .inl (cI, 4, .inl lc_49)), (bL3, .inl (cI, 4, .inl lx_49))]) [0, 1, 2, 3, 4] (by decide) rfl
          exact W.zret (ty := .boolean) (v := 1) hx hb hr rfl (fun t ht hW => ⟨⟨1, (lg_49, lc_49, lx_49), rfl, by simp only [f_DR_load, w1, if_neg c4, w11, if_neg c14, w21, if_neg c24, w32, if_neg c35, w49], by rw [ht]; exact hP9, hD9⟩, hS.F ht⟩) hS.2.2 d_DR_load_53
        · refine lv_iconst (v := 0) hx hb d_DR_load_38 (by decide) ?_
          have hP9 := hP.sub (ws' := [(x0, .inr (0, [.ref aS, .ref aT, .ref aK, .ref aG, .ref aP, .ref aL, .int nm])), (aL, .inr (6, [.ref bL1, .ref bL2, .ref bL3, .ref bL4, .int fo])), (bL1, .inl (cI, 4, .inl lg)), (bL2, .inl (cI, 4, .inl lc)), (bL3, .inl (cI, 4, .inl lx))]) [0, 1, 2, 3, 4] rfl
          have hD9 := hD.sub (ws' := [(x0, .inr (0, [.ref aS, .ref aT, .ref aK, .ref aG, .ref aP, .ref aL, .int nm])), (aL, .inr (6, [.ref bL1, .ref bL2, .ref bL3, .ref bL4, .int fo])), (bL1, .inl (cI, 4, .inl lg)), (bL2, .inl (cI, 4, .inl lc)), (bL3, .inl (cI, 4, .inl lx))]) [0, 1, 2, 3, 4] (by decide) rfl
          exact W.zret (ty := .boolean) (v := 0) hx hb hr rfl (fun t ht hW => ⟨⟨0, (lg, lc, lx), rfl, by simp only [f_DR_load, w1, if_neg c4, w11, if_neg c14, w21, if_neg c24, w32, if_pos c35], by rw [ht]; exact hP9, hD9⟩, hS.F ht⟩) hS.2.2 d_DR_load_39
def f_DR_plan (fo : Int32) (lg : Nat → Int32) (lc : Nat → Int32) (lx : Nat → Int32) (lt : Nat → Int32) (p1 : Int32) : Int32 × Int32 × (Nat → Int32) := let r4 := f_DR_within p1 0 1000000; if r4 = 0 then (((-1), fo, lt)) else (match f_Planner_find fo lg lc lx lt p1 with | (r15, fo_15, lt_15) => (r15, fo_15, lt_15))
abbrev rm_DR_plan : Room := { frames := 2, cells := 0, slots := 0, locals := 51 }
set_option maxHeartbeats 4000000 in
set_option maxRecDepth 100000 in
theorem c_DR_plan (l : Launch) (dC : Nat → ClassId) (dI : Nat → Nat → Nat) (cI cL cZ : ClassId) (x0 aS aT aK aG aP aL bL1 bL2 bL3 bL4 : Nat) (sz : Nat) (nm : Int32) (fo : Int32) (lg : Nat → Int32) (lc : Nat → Int32) (lx : Nat → Int32) (lt : Nat → Int32) (p1 : Int32) : Met l y_DR_plan w_DR_plan rm_DR_plan (va_Pc [.ref x0, .int p1] (c_pre dC dI cI cL cZ [(x0, .inr (0, [.ref aS, .ref aT, .ref aK, .ref aG, .ref aP, .ref aL, .int nm])), (aL, .inr (6, [.ref bL1, .ref bL2, .ref bL3, .ref bL4, .int fo])), (bL1, .inl (cI, 4, .inl lg)), (bL2, .inl (cI, 4, .inl lc)), (bL3, .inl (cI, 4, .inl lx)), (bL4, .inl (cI, 4, .inl lt))] sz)) (va_Qi (fun (r : Int32) (u : Int32 × (Nat → Int32)) => f_DR_plan fo lg lc lx lt p1 = (r, u)) (c_post dC dI (fun (u : Int32 × (Nat → Int32)) => [(x0, .inr (0, [.ref aS, .ref aT, .ref aK, .ref aG, .ref aP, .ref aL, .int nm])), (aL, .inr (6, [.ref bL1, .ref bL2, .ref bL3, .ref bL4, .int u.1])), (bL1, .inl (cI, 4, .inl lg)), (bL2, .inl (cI, 4, .inl lc)), (bL3, .inl (cI, 4, .inl lx)), (bL4, .inl (cI, 4, .inl u.2))]) (va_A [(x0, .inr (0, [.ref aS, .ref aT, .ref aK, .ref aG, .ref aP, .ref aL, .int nm])), (aL, .inr (6, [.ref bL1, .ref bL2, .ref bL3, .ref bL4, .int fo])), (bL1, .inl (cI, 4, .inl lg)), (bL2, .inl (cI, 4, .inl lc)), (bL3, .inl (cI, 4, .inl lx)), (bL4, .inl (cI, 4, .inl lt))] sz)) (va_A [(x0, .inr (0, [.ref aS, .ref aT, .ref aK, .ref aG, .ref aP, .ref aL, .int nm])), (aL, .inr (6, [.ref bL1, .ref bL2, .ref bL3, .ref bL4, .int fo])), (bL1, .inl (cI, 4, .inl lg)), (bL2, .inl (cI, 4, .inl lc)), (bL3, .inl (cI, 4, .inl lx)), (bL4, .inl (cI, 4, .inl lt))] sz)) 0 0 (va_A [(x0, .inr (0, [.ref aS, .ref aT, .ref aK, .ref aG, .ref aP, .ref aL, .int nm])), (aL, .inr (6, [.ref bL1, .ref bL2, .ref bL3, .ref bL4, .int fo])), (bL1, .inl (cI, 4, .inl lg)), (bL2, .inl (cI, 4, .inl lc)), (bL3, .inl (cI, 4, .inl lx)), (bL4, .inl (cI, 4, .inl lt))] sz) := by
  refine Met.ofW (cc := b_DR_plan) (maxL := 2) (ret := (some .int)) (by decide) rfl ?_
  intro p e s m args below meth c s₁ B hml hv
  obtain ⟨rfl, hsz, hP, hK, hN, hD0⟩ := hv
  have hx := B.exec
  have hb := B.bytes
  have hr := B.returns
  have hts := atoms_spec (ws := w_DR_plan) B.pre
  have hown : s.vm.findClass R_DR = some m.cls := findClass_of_methodNamed B.named
  have hlocks := B.notSynchronized
  have hwg : ∀ w ∈ wg, w.before ([.ref x0, .int p1] : List Value).toArray s = true := fun w h => hts w (List.mem_cons_of_mem _ h)
  subst hsz
  have hD := hD0.self (sz := s.heap.size)
  generalize hAe : va_A [(x0, .inr (0, [.ref aS, .ref aT, .ref aK, .ref aG, .ref aP, .ref aL, .int nm])), (aL, .inr (6, [.ref bL1, .ref bL2, .ref bL3, .ref bL4, .int fo])), (bL1, .inl (cI, 4, .inl lg)), (bL2, .inl (cI, 4, .inl lc)), (bL3, .inl (cI, 4, .inl lx)), (bL4, .inl (cI, 4, .inl lt))] s.heap.size = A at hD ⊢
  have hA : ∀ q : Nat, s.heap.size ≤ q → A q := fun q h => by rw [← hAe]; exact Or.inr h
  have hS : va_S A s.heap s.heap [] := va_S.rf
  have hP : va_P (dC, dI) vwCl [(x0, .inr (0, [.ref aS, .ref aT, .ref aK, .ref aG, .ref aP, .ref aL, .int nm])), (aL, .inr (6, [.ref bL1, .ref bL2, .ref bL3, .ref bL4, .int fo])), (bL1, .inl (cI, 4, .inl lg)), (bL2, .inl (cI, 4, .inl lc)), (bL3, .inl (cI, 4, .inl lx)), (bL4, .inl (cI, 4, .inl lt))] s.heap := hP
  have hl := lv_entry ([.ref x0, .int p1]) (n := 2) (Nat.le_of_ble_eq_true rfl)
  rw [lg_entry_eq]
  generalize (lg_sl ([.ref x0, .int p1]) ++ List.replicate (2 - (lg_sl ([.ref x0, .int p1])).length) Slot.unset).toArray = ls at hl ⊢
  have hl : lv_has ls 2 [(0, .ref x0), (1, .int p1)] := hl
  refine lv_iload_n hx hb d_DR_plan_0 rfl (lv_at hl 1 rfl) ?_
  refine lv_iconst (v := 0) hx hb d_DR_plan_1 (by decide) ?_
  refine lv_ldc hx hb hown (hwg _ kw_124) d_DR_plan_2 ?_
  have hPc := hP.sub (ws' := []) [] rfl
  have hDc := hD.sub (ws' := []) [] (by decide) rfl
  refine k_calli hP hD hS hA [] [0, 1, 2, 3, 4, 5] (wc := []) (wr := [(x0, .inr (0, [.ref aS, .ref aT, .ref aK, .ref aG, .ref aP, .ref aL, .int nm])), (aL, .inr (6, [.ref bL1, .ref bL2, .ref bL3, .ref bL4, .int fo])), (bL1, .inl (cI, 4, .inl lg)), (bL2, .inl (cI, 4, .inl lc)), (bL3, .inl (cI, 4, .inl lx)), (bL4, .inl (cI, 4, .inl lt))]) rfl rfl (by decide) (by decide) (va_runS (As := [.int p1, .int 0, .int 1000000]) (rest := []) ⟨hx, hb, hml, hown, hwg⟩ (c_DR_within l dC dI cI cL cZ s.heap.size p1 0 1000000) (va_cwS 3 hwg (g_S kw_106 kw_107 kw_14 kw_108) rfl rfl rfl (by decide +kernel) ⟨Nat.le_of_ble_eq_true rfl, Nat.le_of_ble_eq_true rfl⟩) ⟨c_pre_call, c_pre_mk hPc hDc hK hN _⟩ rfl rfl hl.1 rfl (lv_room (Nat.le_of_ble_eq_true rfl)) d_DR_plan_4 ⟨Nat.le_of_ble_eq_true rfl, Nat.le_of_ble_eq_true rfl⟩) (fun r4 u H4 locs w4 hz1 hP hD hS => ?_)
  have hP := hP.sub (ws' := [(x0, .inr (0, [.ref aS, .ref aT, .ref aK, .ref aG, .ref aP, .ref aL, .int nm])), (aL, .inr (6, [.ref bL1, .ref bL2, .ref bL3, .ref bL4, .int fo])), (bL1, .inl (cI, 4, .inl lg)), (bL2, .inl (cI, 4, .inl lc)), (bL3, .inl (cI, 4, .inl lx)), (bL4, .inl (cI, 4, .inl lt))]) [0, 1, 2, 3, 4, 5] rfl
  have hD := hD.sub (ws' := [(x0, .inr (0, [.ref aS, .ref aT, .ref aK, .ref aG, .ref aP, .ref aL, .int nm])), (aL, .inr (6, [.ref bL1, .ref bL2, .ref bL3, .ref bL4, .int fo])), (bL1, .inl (cI, 4, .inl lg)), (bL2, .inl (cI, 4, .inl lc)), (bL3, .inl (cI, 4, .inl lx)), (bL4, .inl (cI, 4, .inl lt))]) [0, 1, 2, 3, 4, 5] (by decide) rfl
  refine lv_if_eq (tgt := 21) hx hb d_DR_plan_7 (by decide) (fun (c7 : r4 = 0) => ?_) (fun (c7 : ¬ (r4 = 0)) => ?_)
  · refine lv_iconst (v := (-1)) hx hb d_DR_plan_21 (by decide) ?_
    have hP9 := hP.sub (ws' := [(x0, .inr (0, [.ref aS, .ref aT, .ref aK, .ref aG, .ref aP, .ref aL, .int nm])), (aL, .inr (6, [.ref bL1, .ref bL2, .ref bL3, .ref bL4, .int fo])), (bL1, .inl (cI, 4, .inl lg)), (bL2, .inl (cI, 4, .inl lc)), (bL3, .inl (cI, 4, .inl lx)), (bL4, .inl (cI, 4, .inl lt))]) [0, 1, 2, 3, 4, 5] rfl
    have hD9 := hD.sub (ws' := [(x0, .inr (0, [.ref aS, .ref aT, .ref aK, .ref aG, .ref aP, .ref aL, .int nm])), (aL, .inr (6, [.ref bL1, .ref bL2, .ref bL3, .ref bL4, .int fo])), (bL1, .inl (cI, 4, .inl lg)), (bL2, .inl (cI, 4, .inl lc)), (bL3, .inl (cI, 4, .inl lx)), (bL4, .inl (cI, 4, .inl lt))]) [0, 1, 2, 3, 4, 5] (by decide) rfl
    exact W.iret (v := (-1)) hx hb hr (fun t ht hW => ⟨⟨(-1), (fo, lt), rfl, by simp only [f_DR_plan, w4, if_pos c7], by rw [ht]; exact hP9, hD9⟩, hS.F ht⟩) hS.2.2 d_DR_plan_22
  · refine lv_aload_n hx hb d_DR_plan_10 rfl (lv_at hl 0 rfl) ?_
    refine va_get (D := (dC, dI)) (ci := 0) (v := .ref aL) (C := R_DR) (T := F_DR) (N := 7) hx hb hwg iu_DR hown hK hP 0 rfl rfl 5 (by decide) (hwg _ kw_97) (fun _ h9 => h9) rfl d_DR_plan_11 ?_
    refine lv_iload_n hx hb d_DR_plan_14 rfl (lv_at hl 1 rfl) ?_
    have hPc := hP.sub (ws' := [(aL, .inr (6, [.ref bL1, .ref bL2, .ref bL3, .ref bL4, .int fo])), (bL1, .inl (cI, 4, .inl lg)), (bL2, .inl (cI, 4, .inl lc)), (bL3, .inl (cI, 4, .inl lx)), (bL4, .inl (cI, 4, .inl lt))]) [1, 2, 3, 4, 5] rfl
    have hDc := hD.sub (ws' := [(aL, .inr (6, [.ref bL1, .ref bL2, .ref bL3, .ref bL4, .int fo])), (bL1, .inl (cI, 4, .inl lg)), (bL2, .inl (cI, 4, .inl lc)), (bL3, .inl (cI, 4, .inl lx)), (bL4, .inl (cI, 4, .inl lt))]) [1, 2, 3, 4, 5] (by decide) rfl
    refine k_calli hP hD hS hA [1, 2, 3, 4, 5] [0] (wc := [(aL, .inr (6, [.ref bL1, .ref bL2, .ref bL3, .ref bL4, .int fo])), (bL1, .inl (cI, 4, .inl lg)), (bL2, .inl (cI, 4, .inl lc)), (bL3, .inl (cI, 4, .inl lx)), (bL4, .inl (cI, 4, .inl lt))]) (wr := [(x0, .inr (0, [.ref aS, .ref aT, .ref aK, .ref aG, .ref aP, .ref aL, .int nm]))]) rfl rfl (by decide) (by decide) (va_runV (As := [.int p1]) (rest := []) ⟨hx, hb, hml, hown, hwg⟩ (c_Planner_find l dC dI cI cL cZ aL bL1 bL2 bL3 bL4 H4.size fo lg lc lx lt p1) (cwV 1 hwg (g_V kw_287 kw_288 kw_289 kw_20 kw_290) rfl rfl rfl (by decide +kernel) ⟨Nat.le_of_ble_eq_true rfl, Nat.le_of_ble_eq_true rfl⟩) ⟨c_pre_call, va_recv hK hPc (ci := 6) (q0 := 0) rfl rfl, c_pre_mk hPc hDc hK hN _⟩ rfl rfl hl.1 rfl (lv_room (Nat.le_of_ble_eq_true rfl)) d_DR_plan_15 ⟨Nat.le_of_ble_eq_true rfl, Nat.le_of_ble_eq_true rfl⟩) (fun r15 u H15 locs w15 hz1 hP hD hS => ?_)
    obtain ⟨fo_15, lt_15⟩ := u
    have hP := hP.sub (ws' := [(x0, .inr (0, [.ref aS, .ref aT, .ref aK, .ref aG, .ref aP, .ref aL, .int nm])), (aL, .inr (6, [.ref bL1, .ref bL2, .ref bL3, .ref bL4, .int fo_15])), (bL1, .inl (cI, 4, .inl lg)), (bL2, .inl (cI, 4, .inl lc)), (bL3, .inl (cI, 4, .inl lx)), (bL4, .inl (cI, 4, .inl lt_15))]) [0, 1, 2, 3, 4, 5] rfl
    have hD := hD.sub (ws' := [(x0, .inr (0, [.ref aS, .ref aT, .ref aK, .ref aG, .ref aP, .ref aL, .int nm])), (aL, .inr (6, [.ref bL1, .ref bL2, .ref bL3, .ref bL4, .int fo_15])), (bL1, .inl (cI, 4, .inl lg)), (bL2, .inl (cI, 4, .inl lc)), (bL3, .inl (cI, 4, .inl lx)), (bL4, .inl (cI, 4, .inl lt_15))]) [0, 1, 2, 3, 4, 5] (by decide) rfl
    refine lv_goto (tgt := 22) hx hb d_DR_plan_18 (by decide) ?_
    have hP9 := hP.sub (ws' := [(x0, .inr (0, [.ref aS, .ref aT, .ref aK, .ref aG, .ref aP, .ref aL, .int nm])), (aL, .inr (6, [.ref bL1, .ref bL2, .ref bL3, .ref bL4, .int fo_15])), (bL1, .inl (cI, 4, .inl lg)), (bL2, .inl (cI, 4, .inl lc)), (bL3, .inl (cI, 4, .inl lx)), (bL4, .inl (cI, 4, .inl lt_15))]) [0, 1, 2, 3, 4, 5] rfl
    have hD9 := hD.sub (ws' := [(x0, .inr (0, [.ref aS, .ref aT, .ref aK, .ref aG, .ref aP, .ref aL, .int nm])), (aL, .inr (6, [.ref bL1, .ref bL2, .ref bL3, .ref bL4, .int fo_15])), (bL1, .inl (cI, 4, .inl lg)), (bL2, .inl (cI, 4, .inl lc)), (bL3, .inl (cI, 4, .inl lx)), (bL4, .inl (cI, 4, .inl lt_15))]) [0, 1, 2, 3, 4, 5] (by decide) rfl
    exact W.iret (v := r15) hx hb hr (fun t ht hW => ⟨⟨r15, (fo_15, lt_15), rfl, by simp only [f_DR_plan, w4, if_neg c7, w15], by rw [ht]; exact hP9, hD9⟩, hS.F ht⟩) hS.2.2 d_DR_plan_22
def f_DR_planned (fo : Int32) (lt : Nat → Int32) (p1 : Int32) : Int32 := let r1 := f_DR_isKind p1; if r1 = 0 then ((-1)) else (if fo = 0 then ((-1)) else (lt (Int32.toNatClampNeg p1)))
abbrev rm_DR_planned : Room := { frames := 2, cells := 0, slots := 0, locals := 42 }
set_option maxHeartbeats 4000000 in
set_option maxRecDepth 100000 in
theorem c_DR_planned (l : Launch) (dC : Nat → ClassId) (dI : Nat → Nat → Nat) (cI cL cZ : ClassId) (x0 aS aT aK aG aP aL bL1 bL2 bL3 bL4 : Nat) (sz : Nat) (nm : Int32) (fo : Int32) (lt : Nat → Int32) (p1 : Int32) : Met l y_DR_planned w_DR_planned rm_DR_planned (va_Pc [.ref x0, .int p1] (c_pre dC dI cI cL cZ [(x0, .inr (0, [.ref aS, .ref aT, .ref aK, .ref aG, .ref aP, .ref aL, .int nm])), (aL, .inr (6, [.ref bL1, .ref bL2, .ref bL3, .ref bL4, .int fo])), (bL4, .inl (cI, 4, .inl lt))] sz)) (va_Qi (fun (r : Int32) (_ : Unit) => f_DR_planned fo lt p1 = r) (c_post dC dI (fun (u : Unit) => [(x0, .inr (0, [.ref aS, .ref aT, .ref aK, .ref aG, .ref aP, .ref aL, .int nm])), (aL, .inr (6, [.ref bL1, .ref bL2, .ref bL3, .ref bL4, .int fo])), (bL4, .inl (cI, 4, .inl lt))]) (va_A [(x0, .inr (0, [.ref aS, .ref aT, .ref aK, .ref aG, .ref aP, .ref aL, .int nm])), (aL, .inr (6, [.ref bL1, .ref bL2, .ref bL3, .ref bL4, .int fo])), (bL4, .inl (cI, 4, .inl lt))] sz)) (va_A [(x0, .inr (0, [.ref aS, .ref aT, .ref aK, .ref aG, .ref aP, .ref aL, .int nm])), (aL, .inr (6, [.ref bL1, .ref bL2, .ref bL3, .ref bL4, .int fo])), (bL4, .inl (cI, 4, .inl lt))] sz)) 0 0 (va_A [(x0, .inr (0, [.ref aS, .ref aT, .ref aK, .ref aG, .ref aP, .ref aL, .int nm])), (aL, .inr (6, [.ref bL1, .ref bL2, .ref bL3, .ref bL4, .int fo])), (bL4, .inl (cI, 4, .inl lt))] sz) := by
  refine Met.ofW (cc := b_DR_planned) (maxL := 2) (ret := (some .int)) (by decide) rfl ?_
  intro p e s m args below meth c s₁ B hml hv
  obtain ⟨rfl, hsz, hP, hK, hN, hD0⟩ := hv
  have hx := B.exec
  have hb := B.bytes
  have hr := B.returns
  have hts := atoms_spec (ws := w_DR_planned) B.pre
  have hown : s.vm.findClass R_DR = some m.cls := findClass_of_methodNamed B.named
  have hlocks := B.notSynchronized
  have hwg : ∀ w ∈ wg, w.before ([.ref x0, .int p1] : List Value).toArray s = true := fun w h => hts w (List.mem_cons_of_mem _ h)
  subst hsz
  have hD := hD0.self (sz := s.heap.size)
  generalize hAe : va_A [(x0, .inr (0, [.ref aS, .ref aT, .ref aK, .ref aG, .ref aP, .ref aL, .int nm])), (aL, .inr (6, [.ref bL1, .ref bL2, .ref bL3, .ref bL4, .int fo])), (bL4, .inl (cI, 4, .inl lt))] s.heap.size = A at hD ⊢
  have hA : ∀ q : Nat, s.heap.size ≤ q → A q := fun q h => by rw [← hAe]; exact Or.inr h
  have hS : va_S A s.heap s.heap [] := va_S.rf
  have hP : va_P (dC, dI) vwCl [(x0, .inr (0, [.ref aS, .ref aT, .ref aK, .ref aG, .ref aP, .ref aL, .int nm])), (aL, .inr (6, [.ref bL1, .ref bL2, .ref bL3, .ref bL4, .int fo])), (bL4, .inl (cI, 4, .inl lt))] s.heap := hP
  have hl := lv_entry ([.ref x0, .int p1]) (n := 2) (Nat.le_of_ble_eq_true rfl)
  rw [lg_entry_eq]
  generalize (lg_sl ([.ref x0, .int p1]) ++ List.replicate (2 - (lg_sl ([.ref x0, .int p1])).length) Slot.unset).toArray = ls at hl ⊢
  have hl : lv_has ls 2 [(0, .ref x0), (1, .int p1)] := hl
  refine lv_iload_n hx hb d_DR_planned_0 rfl (lv_at hl 1 rfl) ?_
  have hPc := hP.sub (ws' := []) [] rfl
  have hDc := hD.sub (ws' := []) [] (by decide) rfl
  refine k_calli hP hD hS hA [] [0, 1, 2] (wc := []) (wr := [(x0, .inr (0, [.ref aS, .ref aT, .ref aK, .ref aG, .ref aP, .ref aL, .int nm])), (aL, .inr (6, [.ref bL1, .ref bL2, .ref bL3, .ref bL4, .int fo])), (bL4, .inl (cI, 4, .inl lt))]) rfl rfl (by decide) (by decide) (va_runS (As := [.int p1]) (rest := []) ⟨hx, hb, hml, hown, hwg⟩ (c_DR_isKind l dC dI cI cL cZ s.heap.size p1) (va_cwS 1 hwg (g_S kw_103 kw_104 kw_14 kw_105) rfl rfl rfl (by decide +kernel) ⟨Nat.le_of_ble_eq_true rfl, Nat.le_of_ble_eq_true rfl⟩) ⟨c_pre_call, c_pre_mk hPc hDc hK hN _⟩ rfl rfl hl.1 rfl (lv_room (Nat.le_of_ble_eq_true rfl)) d_DR_planned_1 ⟨Nat.le_of_ble_eq_true rfl, Nat.le_of_ble_eq_true rfl⟩) (fun r1 u H1 locs w1 hz1 hP hD hS => ?_)
  have hP := hP.sub (ws' := [(x0, .inr (0, [.ref aS, .ref aT, .ref aK, .ref aG, .ref aP, .ref aL, .int nm])), (aL, .inr (6, [.ref bL1, .ref bL2, .ref bL3, .ref bL4, .int fo])), (bL4, .inl (cI, 4, .inl lt))]) [0, 1, 2] rfl
  have hD := hD.sub (ws' := [(x0, .inr (0, [.ref aS, .ref aT, .ref aK, .ref aG, .ref aP, .ref aL, .int nm])), (aL, .inr (6, [.ref bL1, .ref bL2, .ref bL3, .ref bL4, .int fo])), (bL4, .inl (cI, 4, .inl lt))]) [0, 1, 2] (by decide) rfl
  refine lv_if_eq (tgt := 29) hx hb d_DR_planned_4 (by decide) (fun (c4 : r1 = 0) => ?_) (fun (c4 : ¬ (r1 = 0)) => ?_)
  · refine lv_iconst (v := (-1)) hx hb d_DR_planned_29 (by decide) ?_
    have hP9 := hP.sub (ws' := [(x0, .inr (0, [.ref aS, .ref aT, .ref aK, .ref aG, .ref aP, .ref aL, .int nm])), (aL, .inr (6, [.ref bL1, .ref bL2, .ref bL3, .ref bL4, .int fo])), (bL4, .inl (cI, 4, .inl lt))]) [0, 1, 2] rfl
    have hD9 := hD.sub (ws' := [(x0, .inr (0, [.ref aS, .ref aT, .ref aK, .ref aG, .ref aP, .ref aL, .int nm])), (aL, .inr (6, [.ref bL1, .ref bL2, .ref bL3, .ref bL4, .int fo])), (bL4, .inl (cI, 4, .inl lt))]) [0, 1, 2] (by decide) rfl
    exact W.iret (v := (-1)) hx hb hr (fun t ht hW => ⟨⟨(-1), (), rfl, by simp only [f_DR_planned, w1, if_pos c4], by rw [ht]; exact hP9, hD9⟩, hS.F ht⟩) hS.2.2 d_DR_planned_30
  · refine lv_aload_n hx hb d_DR_planned_7 rfl (lv_at hl 0 rfl) ?_
    refine va_get (D := (dC, dI)) (ci := 0) (v := .ref aL) (C := R_DR) (T := F_DR) (N := 7) hx hb hwg iu_DR hown hK hP 0 rfl rfl 5 (by decide) (hwg _ kw_97) (fun _ h9 => h9) rfl d_DR_planned_8 ?_
    refine va_getN (D := (dC, dI)) (ci := 6) (v := .int fo) (C := R_Planner) (T := F_Planner) (N := 5) hx hb hwg iu_Planner hown hK hP 1 rfl rfl 4 (by decide) (va_Nw.use rfl (hN _ nk_23)) (fun _ h9 => h9) rfl d_DR_planned_11 ?_
    refine lv_if_eq (tgt := 29) hx hb d_DR_planned_14 (by decide) (fun (c14 : fo = 0) => ?_) (fun (c14 : ¬ (fo = 0)) => ?_)
    · refine lv_iconst (v := (-1)) hx hb d_DR_planned_29 (by decide) ?_
      have hP9 := hP.sub (ws' := [(x0, .inr (0, [.ref aS, .ref aT, .ref aK, .ref aG, .ref aP, .ref aL, .int nm])), (aL, .inr (6, [.ref bL1, .ref bL2, .ref bL3, .ref bL4, .int fo])), (bL4, .inl (cI, 4, .inl lt))]) [0, 1, 2] rfl
      have hD9 := hD.sub (ws' := [(x0, .inr (0, [.ref aS, .ref aT, .ref aK, .ref aG, .ref aP, .ref aL, .int nm])), (aL, .inr (6, [.ref bL1, .ref bL2, .ref bL3, .ref bL4, .int fo])), (bL4, .inl (cI, 4, .inl lt))]) [0, 1, 2] (by decide) rfl
      exact W.iret (v := (-1)) hx hb hr (fun t ht hW => ⟨⟨(-1), (), rfl, by simp only [f_DR_planned, w1, if_neg c4, if_pos c14], by rw [ht]; exact hP9, hD9⟩, hS.F ht⟩) hS.2.2 d_DR_planned_30
    · refine lv_aload_n hx hb d_DR_planned_17 rfl (lv_at hl 0 rfl) ?_
      refine va_get (D := (dC, dI)) (ci := 0) (v := .ref aL) (C := R_DR) (T := F_DR) (N := 7) hx hb hwg iu_DR hown hK hP 0 rfl rfl 5 (by decide) (hwg _ kw_97) (fun _ h9 => h9) rfl d_DR_planned_18 ?_
      refine va_getN (D := (dC, dI)) (ci := 6) (v := .ref bL4) (C := R_Planner) (T := F_Planner) (N := 5) hx hb hwg iu_Planner hown hK hP 1 rfl rfl 3 (by decide) (va_Nw.use rfl (hN _ nk_22)) (fun _ h9 => h9) rfl d_DR_planned_21 ?_
      refine lv_iload_n hx hb d_DR_planned_24 rfl (lv_at hl 1 rfl) ?_
      refine va_iald hx hb hK hP 2 0 rfl rfl (in_isKind w1 c4) d_DR_planned_25 ?_
      refine lv_goto (tgt := 30) hx hb d_DR_planned_26 (by decide) ?_
      have hP9 := hP.sub (ws' := [(x0, .inr (0, [.ref aS, .ref aT, .ref aK, .ref aG, .ref aP, .ref aL, .int nm])), (aL, .inr (6, [.ref bL1, .ref bL2, .ref bL3, .ref bL4, .int fo])), (bL4, .inl (cI, 4, .inl lt))]) [0, 1, 2] rfl
      have hD9 := hD.sub (ws' := [(x0, .inr (0, [.ref aS, .ref aT, .ref aK, .ref aG, .ref aP, .ref aL, .int nm])), (aL, .inr (6, [.ref bL1, .ref bL2, .ref bL3, .ref bL4, .int fo])), (bL4, .inl (cI, 4, .inl lt))]) [0, 1, 2] (by decide) rfl
      exact W.iret (v := lt (Int32.toNatClampNeg p1)) hx hb hr (fun t ht hW => ⟨⟨lt (Int32.toNatClampNeg p1), (), rfl, by simp only [f_DR_planned, w1, if_neg c4, if_neg c14], by rw [ht]; exact hP9, hD9⟩, hS.F ht⟩) hS.2.2 d_DR_planned_30
