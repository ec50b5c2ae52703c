theorem dX0_init_0 : decode cX0_init 0 = .ok (.aload_n 0, 1) := by decide +kernel
theorem dX0_init_1 : decode cX0_init 1 = .ok (.invokespecial 3, 3) := by decide +kernel
theorem dX0_init_4 : decode cX0_init 4 = .ok (.aload_n 0, 1) := by decide +kernel
theorem dX0_init_5 : decode cX0_init 5 = .ok (.bipush 6, 2) := by decide +kernel
theorem dX0_init_7 : decode cX0_init 7 = .ok (.newarray .int, 2) := by decide +kernel
theorem dX0_init_9 : decode cX0_init 9 = .ok (.putfield 9, 3) := by decide +kernel
theorem dX0_init_12 : decode cX0_init 12 = .ok (.aload_n 0, 1) := by decide +kernel
theorem dX0_init_13 : decode cX0_init 13 = .ok (.bipush 6, 2) := by decide +kernel
theorem dX0_init_15 : decode cX0_init 15 = .ok (.newarray .int, 2) := by decide +kernel
theorem dX0_init_17 : decode cX0_init 17 = .ok (.putfield 15, 3) := by decide +kernel
theorem dX0_init_20 : decode cX0_init 20 = .ok (.return_, 1) := by decide +kernel
theorem dX0_seatAll_0 : decode cX0_seatAll 0 = .ok (.aload_n 0, 1) := by decide +kernel
theorem dX0_seatAll_1 : decode cX0_seatAll 1 = .ok (.aload_n 1, 1) := by decide +kernel
theorem dX0_seatAll_2 : decode cX0_seatAll 2 = .ok (.getfield 18, 3) := by decide +kernel
theorem dX0_seatAll_5 : decode cX0_seatAll 5 = .ok (.putfield 24, 3) := by decide +kernel
theorem dX0_seatAll_8 : decode cX0_seatAll 8 = .ok (.aload_n 0, 1) := by decide +kernel
theorem dX0_seatAll_9 : decode cX0_seatAll 9 = .ok (.aload_n 1, 1) := by decide +kernel
theorem dX0_seatAll_10 : decode cX0_seatAll 10 = .ok (.getfield 27, 3) := by decide +kernel
theorem dX0_seatAll_13 : decode cX0_seatAll 13 = .ok (.putfield 30, 3) := by decide +kernel
theorem dX0_seatAll_16 : decode cX0_seatAll 16 = .ok (.iconst 0, 1) := by decide +kernel
theorem dX0_seatAll_17 : decode cX0_seatAll 17 = .ok (.istore_n 2, 1) := by decide +kernel
theorem dX0_seatAll_18 : decode cX0_seatAll 18 = .ok (.iload_n 2, 1) := by decide +kernel
theorem dX0_seatAll_19 : decode cX0_seatAll 19 = .ok (.aload_n 0, 1) := by decide +kernel
theorem dX0_seatAll_20 : decode cX0_seatAll 20 = .ok (.getfield 24, 3) := by decide +kernel
theorem dX0_seatAll_23 : decode cX0_seatAll 23 = .ok (.if_icmp .ge 40, 3) := by decide +kernel
theorem dX0_seatAll_26 : decode cX0_seatAll 26 = .ok (.aload_n 1, 1) := by decide +kernel
theorem dX0_seatAll_27 : decode cX0_seatAll 27 = .ok (.getfield 31, 3) := by decide +kernel
theorem dX0_seatAll_30 : decode cX0_seatAll 30 = .ok (.iload_n 2, 1) := by decide +kernel
theorem dX0_seatAll_31 : decode cX0_seatAll 31 = .ok (.iaload, 1) := by decide +kernel
theorem dX0_seatAll_32 : decode cX0_seatAll 32 = .ok (.istore_n 3, 1) := by decide +kernel
theorem dX0_seatAll_33 : decode cX0_seatAll 33 = .ok (.aload_n 0, 1) := by decide +kernel
theorem dX0_seatAll_34 : decode cX0_seatAll 34 = .ok (.getfield 9, 3) := by decide +kernel
theorem dX0_seatAll_37 : decode cX0_seatAll 37 = .ok (.iload_n 2, 1) := by decide +kernel
theorem dX0_seatAll_38 : decode cX0_seatAll 38 = .ok (.aload_n 1, 1) := by decide +kernel
theorem dX0_seatAll_39 : decode cX0_seatAll 39 = .ok (.getfield 34, 3) := by decide +kernel
theorem dX0_seatAll_42 : decode cX0_seatAll 42 = .ok (.iload_n 3, 1) := by decide +kernel
theorem dX0_seatAll_43 : decode cX0_seatAll 43 = .ok (.iaload, 1) := by decide +kernel
theorem dX0_seatAll_44 : decode cX0_seatAll 44 = .ok (.iastore, 1) := by decide +kernel
theorem dX0_seatAll_45 : decode cX0_seatAll 45 = .ok (.aload_n 0, 1) := by decide +kernel
theorem dX0_seatAll_46 : decode cX0_seatAll 46 = .ok (.getfield 15, 3) := by decide +kernel
theorem dX0_seatAll_49 : decode cX0_seatAll 49 = .ok (.iload_n 2, 1) := by decide +kernel
theorem dX0_seatAll_50 : decode cX0_seatAll 50 = .ok (.aload_n 1, 1) := by decide +kernel
theorem dX0_seatAll_51 : decode cX0_seatAll 51 = .ok (.getfield 35, 3) := by decide +kernel
theorem dX0_seatAll_54 : decode cX0_seatAll 54 = .ok (.iload_n 3, 1) := by decide +kernel
theorem dX0_seatAll_55 : decode cX0_seatAll 55 = .ok (.iaload, 1) := by decide +kernel
theorem dX0_seatAll_56 : decode cX0_seatAll 56 = .ok (.iastore, 1) := by decide +kernel
theorem dX0_seatAll_57 : decode cX0_seatAll 57 = .ok (.iinc 2 1, 3) := by decide +kernel
theorem dX0_seatAll_60 : decode cX0_seatAll 60 = .ok (.goto (-42), 3) := by decide +kernel
theorem dX0_seatAll_63 : decode cX0_seatAll 63 = .ok (.return_, 1) := by decide +kernel
theorem dX0_put_0 : decode cX0_put 0 = .ok (.aload_n 0, 1) := by decide +kernel
theorem dX0_put_1 : decode cX0_put 1 = .ok (.getfield 9, 3) := by decide +kernel
theorem dX0_put_4 : decode cX0_put 4 = .ok (.iload_n 1, 1) := by decide +kernel
theorem dX0_put_5 : decode cX0_put 5 = .ok (.iload_n 2, 1) := by decide +kernel
theorem dX0_put_6 : decode cX0_put 6 = .ok (.iastore, 1) := by decide +kernel
theorem dX0_put_7 : decode cX0_put 7 = .ok (.aload_n 0, 1) := by decide +kernel
theorem dX0_put_8 : decode cX0_put 8 = .ok (.getfield 15, 3) := by decide +kernel
theorem dX0_put_11 : decode cX0_put 11 = .ok (.iload_n 1, 1) := by decide +kernel
theorem dX0_put_12 : decode cX0_put 12 = .ok (.iload_n 3, 1) := by decide +kernel
theorem dX0_put_13 : decode cX0_put 13 = .ok (.iastore, 1) := by decide +kernel
theorem dX0_put_14 : decode cX0_put 14 = .ok (.return_, 1) := by decide +kernel
theorem dX0_swap_0 : decode cX0_swap 0 = .ok (.aload_n 0, 1) := by decide +kernel
theorem dX0_swap_1 : decode cX0_swap 1 = .ok (.getfield 9, 3) := by decide +kernel
theorem dX0_swap_4 : decode cX0_swap 4 = .ok (.iload_n 1, 1) := by decide +kernel
theorem dX0_swap_5 : decode cX0_swap 5 = .ok (.iaload, 1) := by decide +kernel
theorem dX0_swap_6 : decode cX0_swap 6 = .ok (.istore_n 3, 1) := by decide +kernel
theorem dX0_swap_7 : decode cX0_swap 7 = .ok (.aload_n 0, 1) := by decide +kernel
theorem dX0_swap_8 : decode cX0_swap 8 = .ok (.getfield 15, 3) := by decide +kernel
theorem dX0_swap_11 : decode cX0_swap 11 = .ok (.iload_n 1, 1) := by decide +kernel
theorem dX0_swap_12 : decode cX0_swap 12 = .ok (.iaload, 1) := by decide +kernel
theorem dX0_swap_13 : decode cX0_swap 13 = .ok (.istore 4, 2) := by decide +kernel
theorem dX0_swap_15 : decode cX0_swap 15 = .ok (.aload_n 0, 1) := by decide +kernel
theorem dX0_swap_16 : decode cX0_swap 16 = .ok (.iload_n 1, 1) := by decide +kernel
theorem dX0_swap_17 : decode cX0_swap 17 = .ok (.aload_n 0, 1) := by decide +kernel
theorem dX0_swap_18 : decode cX0_swap 18 = .ok (.getfield 9, 3) := by decide +kernel
theorem dX0_swap_21 : decode cX0_swap 21 = .ok (.iload_n 2, 1) := by decide +kernel
theorem dX0_swap_22 : decode cX0_swap 22 = .ok (.iaload, 1) := by decide +kernel
theorem dX0_swap_23 : decode cX0_swap 23 = .ok (.aload_n 0, 1) := by decide +kernel
theorem dX0_swap_24 : decode cX0_swap 24 = .ok (.getfield 15, 3) := by decide +kernel
theorem dX0_swap_27 : decode cX0_swap 27 = .ok (.iload_n 2, 1) := by decide +kernel
theorem dX0_swap_28 : decode cX0_swap 28 = .ok (.iaload, 1) := by decide +kernel
theorem dX0_swap_29 : decode cX0_swap 29 = .ok (.invokevirtual 36, 3) := by decide +kernel
theorem dX0_swap_32 : decode cX0_swap 32 = .ok (.aload_n 0, 1) := by decide +kernel
theorem dX0_swap_33 : decode cX0_swap 33 = .ok (.iload_n 2, 1) := by decide +kernel
theorem dX0_swap_34 : decode cX0_swap 34 = .ok (.iload_n 3, 1) := by decide +kernel
theorem dX0_swap_35 : decode cX0_swap 35 = .ok (.iload 4, 2) := by decide +kernel
theorem dX0_swap_37 : decode cX0_swap 37 = .ok (.invokevirtual 36, 3) := by decide +kernel
theorem dX0_swap_40 : decode cX0_swap 40 = .ok (.return_, 1) := by decide +kernel
theorem dX0_lend_0 : decode cX0_lend 0 = .ok (.iconst 0, 1) := by decide +kernel
theorem dX0_lend_1 : decode cX0_lend 1 = .ok (.istore_n 3, 1) := by decide +kernel
theorem dX0_lend_2 : decode cX0_lend 2 = .ok (.iload_n 3, 1) := by decide +kernel
theorem dX0_lend_3 : decode cX0_lend 3 = .ok (.aload_n 0, 1) := by decide +kernel
theorem dX0_lend_4 : decode cX0_lend 4 = .ok (.getfield 24, 3) := by decide +kernel
theorem dX0_lend_7 : decode cX0_lend 7 = .ok (.if_icmp .ge 49, 3) := by decide +kernel
theorem dX0_lend_10 : decode cX0_lend 10 = .ok (.iload_n 1, 1) := by decide +kernel
theorem dX0_lend_11 : decode cX0_lend 11 = .ok (.iload_n 3, 1) := by decide +kernel
theorem dX0_lend_12 : decode cX0_lend 12 = .ok (.ishr, 1) := by decide +kernel
theorem dX0_lend_13 : decode cX0_lend 13 = .ok (.iconst 1, 1) := by decide +kernel
theorem dX0_lend_14 : decode cX0_lend 14 = .ok (.iand, 1) := by decide +kernel
theorem dX0_lend_15 : decode cX0_lend 15 = .ok (.ifCond .eq 35, 3) := by decide +kernel
theorem dX0_lend_18 : decode cX0_lend 18 = .ok (.iload_n 2, 1) := by decide +kernel
theorem dX0_lend_19 : decode cX0_lend 19 = .ok (.iload_n 3, 1) := by decide +kernel
theorem dX0_lend_20 : decode cX0_lend 20 = .ok (.ishr, 1) := by decide +kernel
theorem dX0_lend_21 : decode cX0_lend 21 = .ok (.iconst 1, 1) := by decide +kernel
theorem dX0_lend_22 : decode cX0_lend 22 = .ok (.iand, 1) := by decide +kernel
theorem dX0_lend_23 : decode cX0_lend 23 = .ok (.ifCond .eq 7, 3) := by decide +kernel
theorem dX0_lend_26 : decode cX0_lend 26 = .ok (.iconst 1, 1) := by decide +kernel
theorem dX0_lend_27 : decode cX0_lend 27 = .ok (.goto 4, 3) := by decide +kernel
theorem dX0_lend_30 : decode cX0_lend 30 = .ok (.iconst 0, 1) := by decide +kernel
theorem dX0_lend_31 : decode cX0_lend 31 = .ok (.istore 4, 2) := by decide +kernel
theorem dX0_lend_33 : decode cX0_lend 33 = .ok (.aload_n 0, 1) := by decide +kernel
theorem dX0_lend_34 : decode cX0_lend 34 = .ok (.iload_n 3, 1) := by decide +kernel
theorem dX0_lend_35 : decode cX0_lend 35 = .ok (.iload 4, 2) := by decide +kernel
theorem dX0_lend_37 : decode cX0_lend 37 = .ok (.ifCond .eq 7, 3) := by decide +kernel
theorem dX0_lend_40 : decode cX0_lend 40 = .ok (.iconst 1, 1) := by decide +kernel
theorem dX0_lend_41 : decode cX0_lend 41 = .ok (.goto 4, 3) := by decide +kernel
theorem dX0_lend_44 : decode cX0_lend 44 = .ok (.iconst 0, 1) := by decide +kernel
theorem dX0_lend_45 : decode cX0_lend 45 = .ok (.bipush 7, 2) := by decide +kernel
theorem dX0_lend_47 : decode cX0_lend 47 = .ok (.invokevirtual 36, 3) := by decide +kernel
theorem dX0_lend_50 : decode cX0_lend 50 = .ok (.iinc 3 1, 3) := by decide +kernel
theorem dX0_lend_53 : decode cX0_lend 53 = .ok (.goto (-51), 3) := by decide +kernel
theorem dX0_lend_56 : decode cX0_lend 56 = .ok (.return_, 1) := by decide +kernel
theorem dX0_turnWind_0 : decode cX0_turnWind 0 = .ok (.aload_n 0, 1) := by decide +kernel
theorem dX0_turnWind_1 : decode cX0_turnWind 1 = .ok (.iconst 1, 1) := by decide +kernel
theorem dX0_turnWind_2 : decode cX0_turnWind 2 = .ok (.aload_n 0, 1) := by decide +kernel
theorem dX0_turnWind_3 : decode cX0_turnWind 3 = .ok (.getfield 30, 3) := by decide +kernel
theorem dX0_turnWind_6 : decode cX0_turnWind 6 = .ok (.isub, 1) := by decide +kernel
theorem dX0_turnWind_7 : decode cX0_turnWind 7 = .ok (.putfield 30, 3) := by decide +kernel
theorem dX0_turnWind_10 : decode cX0_turnWind 10 = .ok (.return_, 1) := by decide +kernel
theorem dX0_leftOf_0 : decode cX0_leftOf 0 = .ok (.iload_n 1, 1) := by decide +kernel
theorem dX0_leftOf_1 : decode cX0_leftOf 1 = .ok (.iconst 1, 1) := by decide +kernel
theorem dX0_leftOf_2 : decode cX0_leftOf 2 = .ok (.iadd, 1) := by decide +kernel
theorem dX0_leftOf_3 : decode cX0_leftOf 3 = .ok (.aload_n 0, 1) := by decide +kernel
theorem dX0_leftOf_4 : decode cX0_leftOf 4 = .ok (.getfield 24, 3) := by decide +kernel
theorem dX0_leftOf_7 : decode cX0_leftOf 7 = .ok (.if_icmp .ge 9, 3) := by decide +kernel
theorem dX0_leftOf_10 : decode cX0_leftOf 10 = .ok (.iload_n 1, 1) := by decide +kernel
theorem dX0_leftOf_11 : decode cX0_leftOf 11 = .ok (.iconst 1, 1) := by decide +kernel
theorem dX0_leftOf_12 : decode cX0_leftOf 12 = .ok (.iadd, 1) := by decide +kernel
theorem dX0_leftOf_13 : decode cX0_leftOf 13 = .ok (.goto 4, 3) := by decide +kernel
theorem dX0_leftOf_16 : decode cX0_leftOf 16 = .ok (.iconst 0, 1) := by decide +kernel
theorem dX0_leftOf_17 : decode cX0_leftOf 17 = .ok (.ireturn, 1) := by decide +kernel
theorem dX0_outcome_0 : decode cX0_outcome 0 = .ok (.iload_n 2, 1) := by decide +kernel
theorem dX0_outcome_1 : decode cX0_outcome 1 = .ok (.istore_n 3, 1) := by decide +kernel
theorem dX0_outcome_2 : decode cX0_outcome 2 = .ok (.iconst 1, 1) := by decide +kernel
theorem dX0_outcome_3 : decode cX0_outcome 3 = .ok (.istore 4, 2) := by decide +kernel
theorem dX0_outcome_5 : decode cX0_outcome 5 = .ok (.iload_n 1, 1) := by decide +kernel
theorem dX0_outcome_6 : decode cX0_outcome 6 = .ok (.istore 5, 2) := by decide +kernel
theorem dX0_outcome_8 : decode cX0_outcome 8 = .ok (.iconst 0, 1) := by decide +kernel
theorem dX0_outcome_9 : decode cX0_outcome 9 = .ok (.istore 6, 2) := by decide +kernel
theorem dX0_outcome_11 : decode cX0_outcome 11 = .ok (.iload 6, 2) := by decide +kernel
theorem dX0_outcome_13 : decode cX0_outcome 13 = .ok (.aload_n 0, 1) := by decide +kernel
theorem dX0_outcome_14 : decode cX0_outcome 14 = .ok (.getfield 24, 3) := by decide +kernel
theorem dX0_outcome_17 : decode cX0_outcome 17 = .ok (.if_icmp .ge 50, 3) := by decide +kernel
theorem dX0_outcome_20 : decode cX0_outcome 20 = .ok (.aload_n 0, 1) := by decide +kernel
theorem dX0_outcome_21 : decode cX0_outcome 21 = .ok (.iload 5, 2) := by decide +kernel
theorem dX0_outcome_23 : decode cX0_outcome 23 = .ok (.invokevirtual 40, 3) := by decide +kernel
theorem dX0_outcome_26 : decode cX0_outcome 26 = .ok (.istore 5, 2) := by decide +kernel
theorem dX0_outcome_28 : decode cX0_outcome 28 = .ok (.aload_n 0, 1) := by decide +kernel
theorem dX0_outcome_29 : decode cX0_outcome 29 = .ok (.getfield 9, 3) := by decide +kernel
theorem dX0_outcome_32 : decode cX0_outcome 32 = .ok (.iload 5, 2) := by decide +kernel
theorem dX0_outcome_34 : decode cX0_outcome 34 = .ok (.iaload, 1) := by decide +kernel
theorem dX0_outcome_35 : decode cX0_outcome 35 = .ok (.iconst 3, 1) := by decide +kernel
theorem dX0_outcome_36 : decode cX0_outcome 36 = .ok (.if_icmp .ne 12, 3) := by decide +kernel
theorem dX0_outcome_39 : decode cX0_outcome 39 = .ok (.iload 4, 2) := by decide +kernel
theorem dX0_outcome_41 : decode cX0_outcome 41 = .ok (.iconst 2, 1) := by decide +kernel
theorem dX0_outcome_42 : decode cX0_outcome 42 = .ok (.imul, 1) := by decide +kernel
theorem dX0_outcome_43 : decode cX0_outcome 43 = .ok (.istore 4, 2) := by decide +kernel
theorem dX0_outcome_45 : decode cX0_outcome 45 = .ok (.goto 16, 3) := by decide +kernel
theorem dX0_outcome_48 : decode cX0_outcome 48 = .ok (.aload_n 0, 1) := by decide +kernel
theorem dX0_outcome_49 : decode cX0_outcome 49 = .ok (.iload 5, 2) := by decide +kernel
theorem dX0_outcome_51 : decode cX0_outcome 51 = .ok (.iload_n 3, 1) := by decide +kernel
theorem dX0_outcome_52 : decode cX0_outcome 52 = .ok (.iload 4, 2) := by decide +kernel
theorem dX0_outcome_54 : decode cX0_outcome 54 = .ok (.invokevirtual 44, 3) := by decide +kernel
theorem dX0_outcome_57 : decode cX0_outcome 57 = .ok (.istore_n 3, 1) := by decide +kernel
theorem dX0_outcome_58 : decode cX0_outcome 58 = .ok (.iconst 1, 1) := by decide +kernel
theorem dX0_outcome_59 : decode cX0_outcome 59 = .ok (.istore 4, 2) := by decide +kernel
theorem dX0_outcome_61 : decode cX0_outcome 61 = .ok (.iinc 6 1, 3) := by decide +kernel
theorem dX0_outcome_64 : decode cX0_outcome 64 = .ok (.goto (-53), 3) := by decide +kernel
theorem dX0_outcome_67 : decode cX0_outcome 67 = .ok (.iload_n 3, 1) := by decide +kernel
theorem dX0_outcome_68 : decode cX0_outcome 68 = .ok (.ireturn, 1) := by decide +kernel
theorem dX0_madeOften_0 : decode cX0_madeOften 0 = .ok (.iload_n 2, 1) := by decide +kernel
theorem dX0_madeOften_1 : decode cX0_madeOften 1 = .ok (.istore 4, 2) := by decide +kernel
theorem dX0_madeOften_3 : decode cX0_madeOften 3 = .ok (.iconst 0, 1) := by decide +kernel
theorem dX0_madeOften_4 : decode cX0_madeOften 4 = .ok (.istore 5, 2) := by decide +kernel
theorem dX0_madeOften_6 : decode cX0_madeOften 6 = .ok (.iload 5, 2) := by decide +kernel
theorem dX0_madeOften_8 : decode cX0_madeOften 8 = .ok (.iload_n 3, 1) := by decide +kernel
theorem dX0_madeOften_9 : decode cX0_madeOften 9 = .ok (.if_icmp .ge 32, 3) := by decide +kernel
theorem dX0_madeOften_12 : decode cX0_madeOften 12 = .ok (.aload_n 0, 1) := by decide +kernel
theorem dX0_madeOften_13 : decode cX0_madeOften 13 = .ok (.getfield 9, 3) := by decide +kernel
theorem dX0_madeOften_16 : decode cX0_madeOften 16 = .ok (.iload_n 1, 1) := by decide +kernel
theorem dX0_madeOften_17 : decode cX0_madeOften 17 = .ok (.iaload, 1) := by decide +kernel
theorem dX0_madeOften_18 : decode cX0_madeOften 18 = .ok (.aload_n 0, 1) := by decide +kernel
theorem dX0_madeOften_19 : decode cX0_madeOften 19 = .ok (.getfield 15, 3) := by decide +kernel
theorem dX0_madeOften_22 : decode cX0_madeOften 22 = .ok (.iload_n 1, 1) := by decide +kernel
theorem dX0_madeOften_23 : decode cX0_madeOften 23 = .ok (.iaload, 1) := by decide +kernel
theorem dX0_madeOften_24 : decode cX0_madeOften 24 = .ok (.aload_n 0, 1) := by decide +kernel
theorem dX0_madeOften_25 : decode cX0_madeOften 25 = .ok (.getfield 30, 3) := by decide +kernel
theorem dX0_madeOften_28 : decode cX0_madeOften 28 = .ok (.iload 4, 2) := by decide +kernel
theorem dX0_madeOften_30 : decode cX0_madeOften 30 = .ok (.invokestatic 48, 3) := by decide +kernel
theorem dX0_madeOften_33 : decode cX0_madeOften 33 = .ok (.istore 4, 2) := by decide +kernel
theorem dX0_madeOften_35 : decode cX0_madeOften 35 = .ok (.iinc 5 1, 3) := by decide +kernel
theorem dX0_madeOften_38 : decode cX0_madeOften 38 = .ok (.goto (-32), 3) := by decide +kernel
theorem dX0_madeOften_41 : decode cX0_madeOften 41 = .ok (.iload 4, 2) := by decide +kernel
theorem dX0_madeOften_43 : decode cX0_madeOften 43 = .ok (.ireturn, 1) := by decide +kernel
theorem dX0_made_0 : decode cX0_made 0 = .ok (.iload_n 2, 1) := by decide +kernel
theorem dX0_made_1 : decode cX0_made 1 = .ok (.iconst 1, 1) := by decide +kernel
theorem dX0_made_2 : decode cX0_made 2 = .ok (.if_icmp .ne 9, 3) := by decide +kernel
theorem dX0_made_5 : decode cX0_made 5 = .ok (.iconst 2, 1) := by decide +kernel
theorem dX0_made_6 : decode cX0_made 6 = .ok (.iload_n 1, 1) := by decide +kernel
theorem dX0_made_7 : decode cX0_made 7 = .ok (.imul, 1) := by decide +kernel
theorem dX0_made_8 : decode cX0_made 8 = .ok (.goto 4, 3) := by decide +kernel
theorem dX0_made_11 : decode cX0_made 11 = .ok (.iload_n 1, 1) := by decide +kernel
theorem dX0_made_12 : decode cX0_made 12 = .ok (.istore 4, 2) := by decide +kernel
theorem dX0_made_14 : decode cX0_made 14 = .ok (.iload_n 0, 1) := by decide +kernel
theorem dX0_made_15 : decode cX0_made 15 = .ok (.tableswitch 51 1 4 #[29, 33, 51, 41], 29) := by decide +kernel
theorem dX0_made_44 : decode cX0_made 44 = .ok (.iload_n 3, 1) := by decide +kernel
theorem dX0_made_45 : decode cX0_made 45 = .ok (.iload_n 1, 1) := by decide +kernel
theorem dX0_made_46 : decode cX0_made 46 = .ok (.ixor, 1) := by decide +kernel
theorem dX0_made_47 : decode cX0_made 47 = .ok (.ireturn, 1) := by decide +kernel
theorem dX0_made_48 : decode cX0_made 48 = .ok (.iload_n 3, 1) := by decide +kernel
theorem dX0_made_49 : decode cX0_made 49 = .ok (.iload 4, 2) := by decide +kernel
theorem dX0_made_51 : decode cX0_made 51 = .ok (.iadd, 1) := by decide +kernel
theorem dX0_made_52 : decode cX0_made 52 = .ok (.bipush 8, 2) := by decide +kernel
theorem dX0_made_54 : decode cX0_made 54 = .ok (.irem, 1) := by decide +kernel
theorem dX0_made_55 : decode cX0_made 55 = .ok (.ireturn, 1) := by decide +kernel
theorem dX0_made_56 : decode cX0_made 56 = .ok (.iload_n 3, 1) := by decide +kernel
theorem dX0_made_57 : decode cX0_made 57 = .ok (.iload 4, 2) := by decide +kernel
theorem dX0_made_59 : decode cX0_made 59 = .ok (.iadd, 1) := by decide +kernel
theorem dX0_made_60 : decode cX0_made 60 = .ok (.iconst 1, 1) := by decide +kernel
theorem dX0_made_61 : decode cX0_made 61 = .ok (.iadd, 1) := by decide +kernel
theorem dX0_made_62 : decode cX0_made 62 = .ok (.bipush 8, 2) := by decide +kernel
theorem dX0_made_64 : decode cX0_made 64 = .ok (.irem, 1) := by decide +kernel
theorem dX0_made_65 : decode cX0_made 65 = .ok (.ireturn, 1) := by decide +kernel
theorem dX0_made_66 : decode cX0_made 66 = .ok (.iload_n 3, 1) := by decide +kernel
theorem dX0_made_67 : decode cX0_made 67 = .ok (.ireturn, 1) := by decide +kernel
theorem dX1_init_0 : decode cX1_init 0 = .ok (.aload_n 0, 1) := by decide +kernel
theorem dX1_init_1 : decode cX1_init 1 = .ok (.invokespecial 3, 3) := by decide +kernel
theorem dX1_init_4 : decode cX1_init 4 = .ok (.aload_n 0, 1) := by decide +kernel
theorem dX1_init_5 : decode cX1_init 5 = .ok (.bipush 22, 2) := by decide +kernel
theorem dX1_init_7 : decode cX1_init 7 = .ok (.newarray .char, 2) := by decide +kernel
theorem dX1_init_9 : decode cX1_init 9 = .ok (.putfield 9, 3) := by decide +kernel
theorem dX1_init_12 : decode cX1_init 12 = .ok (.return_, 1) := by decide +kernel
theorem dX1_append_0 : decode cX1_append 0 = .ok (.aload_n 0, 1) := by decide +kernel
theorem dX1_append_1 : decode cX1_append 1 = .ok (.getfield 15, 3) := by decide +kernel
theorem dX1_append_4 : decode cX1_append 4 = .ok (.bipush 22, 2) := by decide +kernel
theorem dX1_append_6 : decode cX1_append 6 = .ok (.if_icmp .lt 6, 3) := by decide +kernel
theorem dX1_append_9 : decode cX1_append 9 = .ok (.bipush (-104), 2) := by decide +kernel
theorem dX1_append_11 : decode cX1_append 11 = .ok (.ireturn, 1) := by decide +kernel
theorem dX1_append_12 : decode cX1_append 12 = .ok (.aload_n 0, 1) := by decide +kernel
theorem dX1_append_13 : decode cX1_append 13 = .ok (.getfield 9, 3) := by decide +kernel
theorem dX1_append_16 : decode cX1_append 16 = .ok (.aload_n 0, 1) := by decide +kernel
theorem dX1_append_17 : decode cX1_append 17 = .ok (.getfield 15, 3) := by decide +kernel
theorem dX1_append_20 : decode cX1_append 20 = .ok (.iload_n 1, 1) := by decide +kernel
theorem dX1_append_21 : decode cX1_append 21 = .ok (.castore, 1) := by decide +kernel
theorem dX1_append_22 : decode cX1_append 22 = .ok (.aload_n 0, 1) := by decide +kernel
theorem dX1_append_23 : decode cX1_append 23 = .ok (.dup, 1) := by decide +kernel
theorem dX1_append_24 : decode cX1_append 24 = .ok (.getfield 15, 3) := by decide +kernel
theorem dX1_append_27 : decode cX1_append 27 = .ok (.iconst 1, 1) := by decide +kernel
theorem dX1_append_28 : decode cX1_append 28 = .ok (.iadd, 1) := by decide +kernel
theorem dX1_append_29 : decode cX1_append 29 = .ok (.putfield 15, 3) := by decide +kernel
theorem dX1_append_32 : decode cX1_append 32 = .ok (.aload_n 0, 1) := by decide +kernel
theorem dX1_append_33 : decode cX1_append 33 = .ok (.getfield 15, 3) := by decide +kernel
theorem dX1_append_36 : decode cX1_append 36 = .ok (.ireturn, 1) := by decide +kernel
theorem dX1_clear_0 : decode cX1_clear 0 = .ok (.aload_n 0, 1) := by decide +kernel
theorem dX1_clear_1 : decode cX1_clear 1 = .ok (.getfield 15, 3) := by decide +kernel
theorem dX1_clear_4 : decode cX1_clear 4 = .ok (.istore_n 1, 1) := by decide +kernel
theorem dX1_clear_5 : decode cX1_clear 5 = .ok (.aload_n 0, 1) := by decide +kernel
theorem dX1_clear_6 : decode cX1_clear 6 = .ok (.iconst 0, 1) := by decide +kernel
theorem dX1_clear_7 : decode cX1_clear 7 = .ok (.putfield 15, 3) := by decide +kernel
theorem dX1_clear_10 : decode cX1_clear 10 = .ok (.iload_n 1, 1) := by decide +kernel
theorem dX1_clear_11 : decode cX1_clear 11 = .ok (.ireturn, 1) := by decide +kernel
theorem dX1_firstFault_0 : decode cX1_firstFault 0 = .ok (.iconst (-1), 1) := by decide +kernel
theorem dX1_firstFault_1 : decode cX1_firstFault 1 = .ok (.istore_n 1, 1) := by decide +kernel
theorem dX1_firstFault_2 : decode cX1_firstFault 2 = .ok (.iconst 0, 1) := by decide +kernel
theorem dX1_firstFault_3 : decode cX1_firstFault 3 = .ok (.istore_n 2, 1) := by decide +kernel
theorem dX1_firstFault_4 : decode cX1_firstFault 4 = .ok (.iload_n 2, 1) := by decide +kernel
theorem dX1_firstFault_5 : decode cX1_firstFault 5 = .ok (.aload_n 0, 1) := by decide +kernel
theorem dX1_firstFault_6 : decode cX1_firstFault 6 = .ok (.getfield 15, 3) := by decide +kernel
theorem dX1_firstFault_9 : decode cX1_firstFault 9 = .ok (.if_icmp .ge 33, 3) := by decide +kernel
theorem dX1_firstFault_12 : decode cX1_firstFault 12 = .ok (.aload_n 0, 1) := by decide +kernel
theorem dX1_firstFault_13 : decode cX1_firstFault 13 = .ok (.iload_n 2, 1) := by decide +kernel
theorem dX1_firstFault_14 : decode cX1_firstFault 14 = .ok (.iload_n 1, 1) := by decide +kernel
theorem dX1_firstFault_15 : decode cX1_firstFault 15 = .ok (.invokevirtual 19, 3) := by decide +kernel
theorem dX1_firstFault_18 : decode cX1_firstFault 18 = .ok (.ifCond .ne 5, 3) := by decide +kernel
theorem dX1_firstFault_21 : decode cX1_firstFault 21 = .ok (.iload_n 2, 1) := by decide +kernel
theorem dX1_firstFault_22 : decode cX1_firstFault 22 = .ok (.ireturn, 1) := by decide +kernel
theorem dX1_firstFault_23 : decode cX1_firstFault 23 = .ok (.aload_n 0, 1) := by decide +kernel
theorem dX1_firstFault_24 : decode cX1_firstFault 24 = .ok (.getfield 9, 3) := by decide +kernel
theorem dX1_firstFault_27 : decode cX1_firstFault 27 = .ok (.iload_n 2, 1) := by decide +kernel
theorem dX1_firstFault_28 : decode cX1_firstFault 28 = .ok (.caload, 1) := by decide +kernel
theorem dX1_firstFault_29 : decode cX1_firstFault 29 = .ok (.bipush 59, 2) := by decide +kernel
theorem dX1_firstFault_31 : decode cX1_firstFault 31 = .ok (.if_icmp .ne 5, 3) := by decide +kernel
theorem dX1_firstFault_34 : decode cX1_firstFault 34 = .ok (.iload_n 2, 1) := by decide +kernel
theorem dX1_firstFault_35 : decode cX1_firstFault 35 = .ok (.istore_n 1, 1) := by decide +kernel
theorem dX1_firstFault_36 : decode cX1_firstFault 36 = .ok (.iinc 2 1, 3) := by decide +kernel
theorem dX1_firstFault_39 : decode cX1_firstFault 39 = .ok (.goto (-35), 3) := by decide +kernel
theorem dX1_firstFault_42 : decode cX1_firstFault 42 = .ok (.aload_n 0, 1) := by decide +kernel
theorem dX1_firstFault_43 : decode cX1_firstFault 43 = .ok (.getfield 15, 3) := by decide +kernel
theorem dX1_firstFault_46 : decode cX1_firstFault 46 = .ok (.ireturn, 1) := by decide +kernel
theorem dX1_isWhole_0 : decode cX1_isWhole 0 = .ok (.aload_n 0, 1) := by decide +kernel
theorem dX1_isWhole_1 : decode cX1_isWhole 1 = .ok (.getfield 15, 3) := by decide +kernel
theorem dX1_isWhole_4 : decode cX1_isWhole 4 = .ok (.iconst 2, 1) := by decide +kernel
theorem dX1_isWhole_5 : decode cX1_isWhole 5 = .ok (.if_icmp .lt 34, 3) := by decide +kernel
theorem dX1_isWhole_8 : decode cX1_isWhole 8 = .ok (.aload_n 0, 1) := by decide +kernel
theorem dX1_isWhole_9 : decode cX1_isWhole 9 = .ok (.getfield 9, 3) := by decide +kernel
theorem dX1_isWhole_12 : decode cX1_isWhole 12 = .ok (.aload_n 0, 1) := by decide +kernel
theorem dX1_isWhole_13 : decode cX1_isWhole 13 = .ok (.getfield 15, 3) := by decide +kernel
theorem dX1_isWhole_16 : decode cX1_isWhole 16 = .ok (.iconst 2, 1) := by decide +kernel
theorem dX1_isWhole_17 : decode cX1_isWhole 17 = .ok (.isub, 1) := by decide +kernel
theorem dX1_isWhole_18 : decode cX1_isWhole 18 = .ok (.caload, 1) := by decide +kernel
theorem dX1_isWhole_19 : decode cX1_isWhole 19 = .ok (.bipush 59, 2) := by decide +kernel
theorem dX1_isWhole_21 : decode cX1_isWhole 21 = .ok (.if_icmp .ne 18, 3) := by decide +kernel
theorem dX1_isWhole_24 : decode cX1_isWhole 24 = .ok (.aload_n 0, 1) := by decide +kernel
theorem dX1_isWhole_25 : decode cX1_isWhole 25 = .ok (.invokevirtual 23, 3) := by decide +kernel
theorem dX1_isWhole_28 : decode cX1_isWhole 28 = .ok (.aload_n 0, 1) := by decide +kernel
theorem dX1_isWhole_29 : decode cX1_isWhole 29 = .ok (.getfield 15, 3) := by decide +kernel
theorem dX1_isWhole_32 : decode cX1_isWhole 32 = .ok (.if_icmp .ne 7, 3) := by decide +kernel
theorem dX1_isWhole_35 : decode cX1_isWhole 35 = .ok (.iconst 1, 1) := by decide +kernel
theorem dX1_isWhole_36 : decode cX1_isWhole 36 = .ok (.goto 4, 3) := by decide +kernel
theorem dX1_isWhole_39 : decode cX1_isWhole 39 = .ok (.iconst 0, 1) := by decide +kernel
theorem dX1_isWhole_40 : decode cX1_isWhole 40 = .ok (.ireturn, 1) := by decide +kernel
theorem dX1_rooksTold_0 : decode cX1_rooksTold 0 = .ok (.aload_n 0, 1) := by decide +kernel
theorem dX1_rooksTold_1 : decode cX1_rooksTold 1 = .ok (.getfield 15, 3) := by decide +kernel
theorem dX1_rooksTold_4 : decode cX1_rooksTold 4 = .ok (.iconst 1, 1) := by decide +kernel
theorem dX1_rooksTold_5 : decode cX1_rooksTold 5 = .ok (.isub, 1) := by decide +kernel
theorem dX1_rooksTold_6 : decode cX1_rooksTold 6 = .ok (.iconst 3, 1) := by decide +kernel
theorem dX1_rooksTold_7 : decode cX1_rooksTold 7 = .ok (.idiv, 1) := by decide +kernel
theorem dX1_rooksTold_8 : decode cX1_rooksTold 8 = .ok (.ireturn, 1) := by decide +kernel
theorem dX1_kindTold_0 : decode cX1_kindTold 0 = .ok (.ldc 27, 2) := by decide +kernel
theorem dX1_kindTold_2 : decode cX1_kindTold 2 = .ok (.aload_n 0, 1) := by decide +kernel
theorem dX1_kindTold_3 : decode cX1_kindTold 3 = .ok (.getfield 9, 3) := by decide +kernel
theorem dX1_kindTold_6 : decode cX1_kindTold 6 = .ok (.iconst 3, 1) := by decide +kernel
theorem dX1_kindTold_7 : decode cX1_kindTold 7 = .ok (.iload_n 1, 1) := by decide +kernel
theorem dX1_kindTold_8 : decode cX1_kindTold 8 = .ok (.imul, 1) := by decide +kernel
theorem dX1_kindTold_9 : decode cX1_kindTold 9 = .ok (.caload, 1) := by decide +kernel
theorem dX1_kindTold_10 : decode cX1_kindTold 10 = .ok (.invokevirtual 29, 3) := by decide +kernel
theorem dX1_kindTold_13 : decode cX1_kindTold 13 = .ok (.ireturn, 1) := by decide +kernel
theorem dX1_twigTold_0 : decode cX1_twigTold 0 = .ok (.aload_n 0, 1) := by decide +kernel
theorem dX1_twigTold_1 : decode cX1_twigTold 1 = .ok (.getfield 9, 3) := by decide +kernel
theorem dX1_twigTold_4 : decode cX1_twigTold 4 = .ok (.iconst 3, 1) := by decide +kernel
theorem dX1_twigTold_5 : decode cX1_twigTold 5 = .ok (.iload_n 1, 1) := by decide +kernel
theorem dX1_twigTold_6 : decode cX1_twigTold 6 = .ok (.imul, 1) := by decide +kernel
theorem dX1_twigTold_7 : decode cX1_twigTold 7 = .ok (.iconst 1, 1) := by decide +kernel
theorem dX1_twigTold_8 : decode cX1_twigTold 8 = .ok (.iadd, 1) := by decide +kernel
theorem dX1_twigTold_9 : decode cX1_twigTold 9 = .ok (.caload, 1) := by decide +kernel
theorem dX1_twigTold_10 : decode cX1_twigTold 10 = .ok (.bipush 48, 2) := by decide +kernel
theorem dX1_twigTold_12 : decode cX1_twigTold 12 = .ok (.isub, 1) := by decide +kernel
theorem dX1_twigTold_13 : decode cX1_twigTold 13 = .ok (.ireturn, 1) := by decide +kernel
theorem dX1_windTold_0 : decode cX1_windTold 0 = .ok (.aload_n 0, 1) := by decide +kernel
theorem dX1_windTold_1 : decode cX1_windTold 1 = .ok (.getfield 9, 3) := by decide +kernel
theorem dX1_windTold_4 : decode cX1_windTold 4 = .ok (.aload_n 0, 1) := by decide +kernel
theorem dX1_windTold_5 : decode cX1_windTold 5 = .ok (.getfield 15, 3) := by decide +kernel
theorem dX1_windTold_8 : decode cX1_windTold 8 = .ok (.iconst 1, 1) := by decide +kernel
theorem dX1_windTold_9 : decode cX1_windTold 9 = .ok (.isub, 1) := by decide +kernel
theorem dX1_windTold_10 : decode cX1_windTold 10 = .ok (.caload, 1) := by decide +kernel
theorem dX1_windTold_11 : decode cX1_windTold 11 = .ok (.bipush 48, 2) := by decide +kernel
theorem dX1_windTold_13 : decode cX1_windTold 13 = .ok (.isub, 1) := by decide +kernel
theorem dX1_windTold_14 : decode cX1_windTold 14 = .ok (.ireturn, 1) := by decide +kernel
theorem dX1_fits_0 : decode cX1_fits 0 = .ok (.aload_n 0, 1) := by decide +kernel
theorem dX1_fits_1 : decode cX1_fits 1 = .ok (.getfield 9, 3) := by decide +kernel
theorem dX1_fits_4 : decode cX1_fits 4 = .ok (.iload_n 1, 1) := by decide +kernel
theorem dX1_fits_5 : decode cX1_fits 5 = .ok (.caload, 1) := by decide +kernel
theorem dX1_fits_6 : decode cX1_fits 6 = .ok (.istore_n 3, 1) := by decide +kernel
theorem dX1_fits_7 : decode cX1_fits 7 = .ok (.iload_n 2, 1) := by decide +kernel
theorem dX1_fits_8 : decode cX1_fits 8 = .ok (.iconst (-1), 1) := by decide +kernel
theorem dX1_fits_9 : decode cX1_fits 9 = .ok (.if_icmp .eq 28, 3) := by decide +kernel
theorem dX1_fits_12 : decode cX1_fits 12 = .ok (.iload_n 1, 1) := by decide +kernel
theorem dX1_fits_13 : decode cX1_fits 13 = .ok (.iload_n 2, 1) := by decide +kernel
theorem dX1_fits_14 : decode cX1_fits 14 = .ok (.iconst 1, 1) := by decide +kernel
theorem dX1_fits_15 : decode cX1_fits 15 = .ok (.iadd, 1) := by decide +kernel
theorem dX1_fits_16 : decode cX1_fits 16 = .ok (.if_icmp .ne 19, 3) := by decide +kernel
theorem dX1_fits_19 : decode cX1_fits 19 = .ok (.iload_n 3, 1) := by decide +kernel
theorem dX1_fits_20 : decode cX1_fits 20 = .ok (.bipush 48, 2) := by decide +kernel
theorem dX1_fits_22 : decode cX1_fits 22 = .ok (.if_icmp .eq 9, 3) := by decide +kernel
theorem dX1_fits_25 : decode cX1_fits 25 = .ok (.iload_n 3, 1) := by decide +kernel
theorem dX1_fits_26 : decode cX1_fits 26 = .ok (.bipush 49, 2) := by decide +kernel
theorem dX1_fits_28 : decode cX1_fits 28 = .ok (.if_icmp .ne 7, 3) := by decide +kernel
theorem dX1_fits_31 : decode cX1_fits 31 = .ok (.iconst 1, 1) := by decide +kernel
theorem dX1_fits_32 : decode cX1_fits 32 = .ok (.goto 4, 3) := by decide +kernel
theorem dX1_fits_35 : decode cX1_fits 35 = .ok (.iconst 0, 1) := by decide +kernel
theorem dX1_fits_36 : decode cX1_fits 36 = .ok (.ireturn, 1) := by decide +kernel
theorem dX1_fits_37 : decode cX1_fits 37 = .ok (.iload_n 1, 1) := by decide +kernel
theorem dX1_fits_38 : decode cX1_fits 38 = .ok (.iconst 3, 1) := by decide +kernel
theorem dX1_fits_39 : decode cX1_fits 39 = .ok (.irem, 1) := by decide +kernel
theorem dX1_fits_40 : decode cX1_fits 40 = .ok (.lookupswitch 61 #[(0, 28), (1, 43)], 28) := by decide +kernel
theorem dX1_fits_68 : decode cX1_fits 68 = .ok (.ldc 27, 2) := by decide +kernel
theorem dX1_fits_70 : decode cX1_fits 70 = .ok (.iload_n 3, 1) := by decide +kernel
theorem dX1_fits_71 : decode cX1_fits 71 = .ok (.invokevirtual 29, 3) := by decide +kernel
theorem dX1_fits_74 : decode cX1_fits 74 = .ok (.ifCond .lt 7, 3) := by decide +kernel
theorem dX1_fits_77 : decode cX1_fits 77 = .ok (.iconst 1, 1) := by decide +kernel
theorem dX1_fits_78 : decode cX1_fits 78 = .ok (.goto 4, 3) := by decide +kernel
theorem dX1_fits_81 : decode cX1_fits 81 = .ok (.iconst 0, 1) := by decide +kernel
theorem dX1_fits_82 : decode cX1_fits 82 = .ok (.ireturn, 1) := by decide +kernel
theorem dX1_fits_83 : decode cX1_fits 83 = .ok (.iload_n 3, 1) := by decide +kernel
theorem dX1_fits_84 : decode cX1_fits 84 = .ok (.bipush 48, 2) := by decide +kernel
theorem dX1_fits_86 : decode cX1_fits 86 = .ok (.if_icmp .lt 13, 3) := by decide +kernel
theorem dX1_fits_89 : decode cX1_fits 89 = .ok (.iload_n 3, 1) := by decide +kernel
theorem dX1_fits_90 : decode cX1_fits 90 = .ok (.bipush 55, 2) := by decide +kernel
theorem dX1_fits_92 : decode cX1_fits 92 = .ok (.if_icmp .gt 7, 3) := by decide +kernel
theorem dX1_fits_95 : decode cX1_fits 95 = .ok (.iconst 1, 1) := by decide +kernel
theorem dX1_fits_96 : decode cX1_fits 96 = .ok (.goto 4, 3) := by decide +kernel
theorem dX1_fits_99 : decode cX1_fits 99 = .ok (.iconst 0, 1) := by decide +kernel
theorem dX1_fits_100 : decode cX1_fits 100 = .ok (.ireturn, 1) := by decide +kernel
theorem dX1_fits_101 : decode cX1_fits 101 = .ok (.iload_n 1, 1) := by decide +kernel
theorem dX1_fits_102 : decode cX1_fits 102 = .ok (.iconst 1, 1) := by decide +kernel
theorem dX1_fits_103 : decode cX1_fits 103 = .ok (.iadd, 1) := by decide +kernel
theorem dX1_fits_104 : decode cX1_fits 104 = .ok (.iconst 3, 1) := by decide +kernel
theorem dX1_fits_105 : decode cX1_fits 105 = .ok (.idiv, 1) := by decide +kernel
theorem dX1_fits_106 : decode cX1_fits 106 = .ok (.iload_n 3, 1) := by decide +kernel
theorem dX1_fits_107 : decode cX1_fits 107 = .ok (.invokestatic 35, 3) := by decide +kernel
theorem dX1_fits_110 : decode cX1_fits 110 = .ok (.ireturn, 1) := by decide +kernel
theorem dX1_fitsBehind_0 : decode cX1_fitsBehind 0 = .ok (.iload_n 1, 1) := by decide +kernel
theorem dX1_fitsBehind_1 : decode cX1_fitsBehind 1 = .ok (.bipush 44, 2) := by decide +kernel
theorem dX1_fitsBehind_3 : decode cX1_fitsBehind 3 = .ok (.if_icmp .ne 15, 3) := by decide +kernel
theorem dX1_fitsBehind_6 : decode cX1_fitsBehind 6 = .ok (.iload_n 0, 1) := by decide +kernel
theorem dX1_fitsBehind_7 : decode cX1_fitsBehind 7 = .ok (.bipush 6, 2) := by decide +kernel
theorem dX1_fitsBehind_9 : decode cX1_fitsBehind 9 = .ok (.if_icmp .ge 7, 3) := by decide +kernel
theorem dX1_fitsBehind_12 : decode cX1_fitsBehind 12 = .ok (.iconst 1, 1) := by decide +kernel
theorem dX1_fitsBehind_13 : decode cX1_fitsBehind 13 = .ok (.goto 4, 3) := by decide +kernel
theorem dX1_fitsBehind_16 : decode cX1_fitsBehind 16 = .ok (.iconst 0, 1) := by decide +kernel
theorem dX1_fitsBehind_17 : decode cX1_fitsBehind 17 = .ok (.ireturn, 1) := by decide +kernel
theorem dX1_fitsBehind_18 : decode cX1_fitsBehind 18 = .ok (.iload_n 1, 1) := by decide +kernel
theorem dX1_fitsBehind_19 : decode cX1_fitsBehind 19 = .ok (.bipush 59, 2) := by decide +kernel
theorem dX1_fitsBehind_21 : decode cX1_fitsBehind 21 = .ok (.if_icmp .ne 12, 3) := by decide +kernel
theorem dX1_fitsBehind_24 : decode cX1_fitsBehind 24 = .ok (.iload_n 0, 1) := by decide +kernel
theorem dX1_fitsBehind_25 : decode cX1_fitsBehind 25 = .ok (.iconst 3, 1) := by decide +kernel
theorem dX1_fitsBehind_26 : decode cX1_fitsBehind 26 = .ok (.if_icmp .lt 7, 3) := by decide +kernel
theorem dX1_fitsBehind_29 : decode cX1_fitsBehind 29 = .ok (.iconst 1, 1) := by decide +kernel
theorem dX1_fitsBehind_30 : decode cX1_fitsBehind 30 = .ok (.goto 4, 3) := by decide +kernel
theorem dX1_fitsBehind_33 : decode cX1_fitsBehind 33 = .ok (.iconst 0, 1) := by decide +kernel
theorem dX1_fitsBehind_34 : decode cX1_fitsBehind 34 = .ok (.ireturn, 1) := by decide +kernel
theorem dX2_init_0 : decode cX2_init 0 = .ok (.aload_n 0, 1) := by decide +kernel
theorem dX2_init_1 : decode cX2_init 1 = .ok (.invokespecial 3, 3) := by decide +kernel
theorem dX2_init_4 : decode cX2_init 4 = .ok (.aload_n 0, 1) := by decide +kernel
theorem dX2_init_5 : decode cX2_init 5 = .ok (.bipush 6, 2) := by decide +kernel
theorem dX2_init_7 : decode cX2_init 7 = .ok (.newarray .int, 2) := by decide +kernel
theorem dX2_init_9 : decode cX2_init 9 = .ok (.putfield 9, 3) := by decide +kernel
theorem dX2_init_12 : decode cX2_init 12 = .ok (.aload_n 0, 1) := by decide +kernel
theorem dX2_init_13 : decode cX2_init 13 = .ok (.bipush 6, 2) := by decide +kernel
theorem dX2_init_15 : decode cX2_init 15 = .ok (.newarray .int, 2) := by decide +kernel
theorem dX2_init_17 : decode cX2_init 17 = .ok (.putfield 15, 3) := by decide +kernel
theorem dX2_init_20 : decode cX2_init 20 = .ok (.aload_n 0, 1) := by decide +kernel
theorem dX2_init_21 : decode cX2_init 21 = .ok (.bipush 6, 2) := by decide +kernel
theorem dX2_init_23 : decode cX2_init 23 = .ok (.newarray .int, 2) := by decide +kernel
theorem dX2_init_25 : decode cX2_init 25 = .ok (.putfield 18, 3) := by decide +kernel
theorem dX2_init_28 : decode cX2_init 28 = .ok (.aload_n 0, 1) := by decide +kernel
theorem dX2_init_29 : decode cX2_init 29 = .ok (.bipush 6, 2) := by decide +kernel
theorem dX2_init_31 : decode cX2_init 31 = .ok (.newarray .int, 2) := by decide +kernel
theorem dX2_init_33 : decode cX2_init 33 = .ok (.putfield 21, 3) := by decide +kernel
theorem dX2_init_36 : decode cX2_init 36 = .ok (.aload_n 0, 1) := by decide +kernel
theorem dX2_init_37 : decode cX2_init 37 = .ok (.bipush 8, 2) := by decide +kernel
theorem dX2_init_39 : decode cX2_init 39 = .ok (.newarray .int, 2) := by decide +kernel
theorem dX2_init_41 : decode cX2_init 41 = .ok (.putfield 24, 3) := by decide +kernel
theorem dX2_init_44 : decode cX2_init 44 = .ok (.aload_n 0, 1) := by decide +kernel
theorem dX2_init_45 : decode cX2_init 45 = .ok (.bipush 8, 2) := by decide +kernel
theorem dX2_init_47 : decode cX2_init 47 = .ok (.newarray .int, 2) := by decide +kernel
theorem dX2_init_49 : decode cX2_init 49 = .ok (.putfield 27, 3) := by decide +kernel
theorem dX2_init_52 : decode cX2_init 52 = .ok (.aload_n 0, 1) := by decide +kernel
theorem dX2_init_53 : decode cX2_init 53 = .ok (.bipush 8, 2) := by decide +kernel
theorem dX2_init_55 : decode cX2_init 55 = .ok (.newarray .int, 2) := by decide +kernel
theorem dX2_init_57 : decode cX2_init 57 = .ok (.putfield 30, 3) := by decide +kernel
theorem dX2_init_60 : decode cX2_init 60 = .ok (.aload_n 0, 1) := by decide +kernel
theorem dX2_init_61 : decode cX2_init 61 = .ok (.iconst (-1), 1) := by decide +kernel
theorem dX2_init_62 : decode cX2_init 62 = .ok (.putfield 33, 3) := by decide +kernel
theorem dX2_init_65 : decode cX2_init 65 = .ok (.return_, 1) := by decide +kernel
theorem dX2_startFrom_0 : decode cX2_startFrom 0 = .ok (.aload_n 0, 1) := by decide +kernel
theorem dX2_startFrom_1 : decode cX2_startFrom 1 = .ok (.aload_n 1, 1) := by decide +kernel
theorem dX2_startFrom_2 : decode cX2_startFrom 2 = .ok (.invokevirtual 37, 3) := by decide +kernel
theorem dX2_startFrom_5 : decode cX2_startFrom 5 = .ok (.putfield 43, 3) := by decide +kernel
theorem dX2_startFrom_8 : decode cX2_startFrom 8 = .ok (.iconst 0, 1) := by decide +kernel
theorem dX2_startFrom_9 : decode cX2_startFrom 9 = .ok (.istore_n 2, 1) := by decide +kernel
theorem dX2_startFrom_10 : decode cX2_startFrom 10 = .ok (.iload_n 2, 1) := by decide +kernel
theorem dX2_startFrom_11 : decode cX2_startFrom 11 = .ok (.aload_n 0, 1) := by decide +kernel
theorem dX2_startFrom_12 : decode cX2_startFrom 12 = .ok (.getfield 43, 3) := by decide +kernel
theorem dX2_startFrom_15 : decode cX2_startFrom 15 = .ok (.if_icmp .ge 45, 3) := by decide +kernel
theorem dX2_startFrom_18 : decode cX2_startFrom 18 = .ok (.aload_n 0, 1) := by decide +kernel
theorem dX2_startFrom_19 : decode cX2_startFrom 19 = .ok (.getfield 9, 3) := by decide +kernel
theorem dX2_startFrom_22 : decode cX2_startFrom 22 = .ok (.iload_n 2, 1) := by decide +kernel
theorem dX2_startFrom_23 : decode cX2_startFrom 23 = .ok (.aload_n 1, 1) := by decide +kernel
theorem dX2_startFrom_24 : decode cX2_startFrom 24 = .ok (.iload_n 2, 1) := by decide +kernel
theorem dX2_startFrom_25 : decode cX2_startFrom 25 = .ok (.invokevirtual 46, 3) := by decide +kernel
theorem dX2_startFrom_28 : decode cX2_startFrom 28 = .ok (.iastore, 1) := by decide +kernel
theorem dX2_startFrom_29 : decode cX2_startFrom 29 = .ok (.aload_n 0, 1) := by decide +kernel
theorem dX2_startFrom_30 : decode cX2_startFrom 30 = .ok (.getfield 15, 3) := by decide +kernel
theorem dX2_startFrom_33 : decode cX2_startFrom 33 = .ok (.iload_n 2, 1) := by decide +kernel
theorem dX2_startFrom_34 : decode cX2_startFrom 34 = .ok (.aload_n 1, 1) := by decide +kernel
theorem dX2_startFrom_35 : decode cX2_startFrom 35 = .ok (.iload_n 2, 1) := by decide +kernel
theorem dX2_startFrom_36 : decode cX2_startFrom 36 = .ok (.invokevirtual 50, 3) := by decide +kernel
theorem dX2_startFrom_39 : decode cX2_startFrom 39 = .ok (.iastore, 1) := by decide +kernel
theorem dX2_startFrom_40 : decode cX2_startFrom 40 = .ok (.aload_n 0, 1) := by decide +kernel
theorem dX2_startFrom_41 : decode cX2_startFrom 41 = .ok (.getfield 18, 3) := by decide +kernel
theorem dX2_startFrom_44 : decode cX2_startFrom 44 = .ok (.iload_n 2, 1) := by decide +kernel
theorem dX2_startFrom_45 : decode cX2_startFrom 45 = .ok (.iconst 0, 1) := by decide +kernel
theorem dX2_startFrom_46 : decode cX2_startFrom 46 = .ok (.iastore, 1) := by decide +kernel
theorem dX2_startFrom_47 : decode cX2_startFrom 47 = .ok (.aload_n 0, 1) := by decide +kernel
theorem dX2_startFrom_48 : decode cX2_startFrom 48 = .ok (.getfield 21, 3) := by decide +kernel
theorem dX2_startFrom_51 : decode cX2_startFrom 51 = .ok (.iload_n 2, 1) := by decide +kernel
theorem dX2_startFrom_52 : decode cX2_startFrom 52 = .ok (.iload_n 2, 1) := by decide +kernel
theorem dX2_startFrom_53 : decode cX2_startFrom 53 = .ok (.iastore, 1) := by decide +kernel
theorem dX2_startFrom_54 : decode cX2_startFrom 54 = .ok (.iinc 2 1, 3) := by decide +kernel
theorem dX2_startFrom_57 : decode cX2_startFrom 57 = .ok (.goto (-47), 3) := by decide +kernel
theorem dX2_startFrom_60 : decode cX2_startFrom 60 = .ok (.aload_n 0, 1) := by decide +kernel
theorem dX2_startFrom_61 : decode cX2_startFrom 61 = .ok (.aload_n 1, 1) := by decide +kernel
theorem dX2_startFrom_62 : decode cX2_startFrom 62 = .ok (.invokevirtual 53, 3) := by decide +kernel
theorem dX2_startFrom_65 : decode cX2_startFrom 65 = .ok (.putfield 56, 3) := by decide +kernel
theorem dX2_startFrom_68 : decode cX2_startFrom 68 = .ok (.aload_n 0, 1) := by decide +kernel
theorem dX2_startFrom_69 : decode cX2_startFrom 69 = .ok (.iconst 0, 1) := by decide +kernel
theorem dX2_startFrom_70 : decode cX2_startFrom 70 = .ok (.putfield 59, 3) := by decide +kernel
theorem dX2_startFrom_73 : decode cX2_startFrom 73 = .ok (.aload_n 0, 1) := by decide +kernel
theorem dX2_startFrom_74 : decode cX2_startFrom 74 = .ok (.iconst (-1), 1) := by decide +kernel
theorem dX2_startFrom_75 : decode cX2_startFrom 75 = .ok (.putfield 33, 3) := by decide +kernel
theorem dX2_startFrom_78 : decode cX2_startFrom 78 = .ok (.aload_n 0, 1) := by decide +kernel
theorem dX2_startFrom_79 : decode cX2_startFrom 79 = .ok (.iconst 0, 1) := by decide +kernel
theorem dX2_startFrom_80 : decode cX2_startFrom 80 = .ok (.putfield 62, 3) := by decide +kernel
theorem dX2_startFrom_83 : decode cX2_startFrom 83 = .ok (.return_, 1) := by decide +kernel
theorem dX2_copyOf_0 : decode cX2_copyOf 0 = .ok (.aload_n 1, 1) := by decide +kernel
theorem dX2_copyOf_1 : decode cX2_copyOf 1 = .ok (.getfield 9, 3) := by decide +kernel
theorem dX2_copyOf_4 : decode cX2_copyOf 4 = .ok (.iconst 0, 1) := by decide +kernel
theorem dX2_copyOf_5 : decode cX2_copyOf 5 = .ok (.aload_n 0, 1) := by decide +kernel
theorem dX2_copyOf_6 : decode cX2_copyOf 6 = .ok (.getfield 9, 3) := by decide +kernel
theorem dX2_copyOf_9 : decode cX2_copyOf 9 = .ok (.iconst 0, 1) := by decide +kernel
theorem dX2_copyOf_10 : decode cX2_copyOf 10 = .ok (.bipush 6, 2) := by decide +kernel
theorem dX2_copyOf_12 : decode cX2_copyOf 12 = .ok (.invokestatic 65, 3) := by decide +kernel
theorem dX2_copyOf_15 : decode cX2_copyOf 15 = .ok (.aload_n 1, 1) := by decide +kernel
theorem dX2_copyOf_16 : decode cX2_copyOf 16 = .ok (.getfield 15, 3) := by decide +kernel
theorem dX2_copyOf_19 : decode cX2_copyOf 19 = .ok (.iconst 0, 1) := by decide +kernel
theorem dX2_copyOf_20 : decode cX2_copyOf 20 = .ok (.aload_n 0, 1) := by decide +kernel
theorem dX2_copyOf_21 : decode cX2_copyOf 21 = .ok (.getfield 15, 3) := by decide +kernel
theorem dX2_copyOf_24 : decode cX2_copyOf 24 = .ok (.iconst 0, 1) := by decide +kernel
theorem dX2_copyOf_25 : decode cX2_copyOf 25 = .ok (.bipush 6, 2) := by decide +kernel
theorem dX2_copyOf_27 : decode cX2_copyOf 27 = .ok (.invokestatic 65, 3) := by decide +kernel
theorem dX2_copyOf_30 : decode cX2_copyOf 30 = .ok (.aload_n 1, 1) := by decide +kernel
theorem dX2_copyOf_31 : decode cX2_copyOf 31 = .ok (.getfield 18, 3) := by decide +kernel
theorem dX2_copyOf_34 : decode cX2_copyOf 34 = .ok (.iconst 0, 1) := by decide +kernel
theorem dX2_copyOf_35 : decode cX2_copyOf 35 = .ok (.aload_n 0, 1) := by decide +kernel
theorem dX2_copyOf_36 : decode cX2_copyOf 36 = .ok (.getfield 18, 3) := by decide +kernel
theorem dX2_copyOf_39 : decode cX2_copyOf 39 = .ok (.iconst 0, 1) := by decide +kernel
theorem dX2_copyOf_40 : decode cX2_copyOf 40 = .ok (.bipush 6, 2) := by decide +kernel
theorem dX2_copyOf_42 : decode cX2_copyOf 42 = .ok (.invokestatic 65, 3) := by decide +kernel
theorem dX2_copyOf_45 : decode cX2_copyOf 45 = .ok (.aload_n 1, 1) := by decide +kernel
theorem dX2_copyOf_46 : decode cX2_copyOf 46 = .ok (.getfield 21, 3) := by decide +kernel
theorem dX2_copyOf_49 : decode cX2_copyOf 49 = .ok (.iconst 0, 1) := by decide +kernel
theorem dX2_copyOf_50 : decode cX2_copyOf 50 = .ok (.aload_n 0, 1) := by decide +kernel
theorem dX2_copyOf_51 : decode cX2_copyOf 51 = .ok (.getfield 21, 3) := by decide +kernel
theorem dX2_copyOf_54 : decode cX2_copyOf 54 = .ok (.iconst 0, 1) := by decide +kernel
theorem dX2_copyOf_55 : decode cX2_copyOf 55 = .ok (.bipush 6, 2) := by decide +kernel
theorem dX2_copyOf_57 : decode cX2_copyOf 57 = .ok (.invokestatic 65, 3) := by decide +kernel
theorem dX2_copyOf_60 : decode cX2_copyOf 60 = .ok (.aload_n 1, 1) := by decide +kernel
theorem dX2_copyOf_61 : decode cX2_copyOf 61 = .ok (.getfield 24, 3) := by decide +kernel
theorem dX2_copyOf_64 : decode cX2_copyOf 64 = .ok (.iconst 0, 1) := by decide +kernel
theorem dX2_copyOf_65 : decode cX2_copyOf 65 = .ok (.aload_n 0, 1) := by decide +kernel
theorem dX2_copyOf_66 : decode cX2_copyOf 66 = .ok (.getfield 24, 3) := by decide +kernel
theorem dX2_copyOf_69 : decode cX2_copyOf 69 = .ok (.iconst 0, 1) := by decide +kernel
theorem dX2_copyOf_70 : decode cX2_copyOf 70 = .ok (.bipush 8, 2) := by decide +kernel
theorem dX2_copyOf_72 : decode cX2_copyOf 72 = .ok (.invokestatic 65, 3) := by decide +kernel
theorem dX2_copyOf_75 : decode cX2_copyOf 75 = .ok (.aload_n 1, 1) := by decide +kernel
theorem dX2_copyOf_76 : decode cX2_copyOf 76 = .ok (.getfield 27, 3) := by decide +kernel
theorem dX2_copyOf_79 : decode cX2_copyOf 79 = .ok (.iconst 0, 1) := by decide +kernel
theorem dX2_copyOf_80 : decode cX2_copyOf 80 = .ok (.aload_n 0, 1) := by decide +kernel
theorem dX2_copyOf_81 : decode cX2_copyOf 81 = .ok (.getfield 27, 3) := by decide +kernel
theorem dX2_copyOf_84 : decode cX2_copyOf 84 = .ok (.iconst 0, 1) := by decide +kernel
theorem dX2_copyOf_85 : decode cX2_copyOf 85 = .ok (.bipush 8, 2) := by decide +kernel
theorem dX2_copyOf_87 : decode cX2_copyOf 87 = .ok (.invokestatic 65, 3) := by decide +kernel
theorem dX2_copyOf_90 : decode cX2_copyOf 90 = .ok (.aload_n 1, 1) := by decide +kernel
theorem dX2_copyOf_91 : decode cX2_copyOf 91 = .ok (.getfield 30, 3) := by decide +kernel
theorem dX2_copyOf_94 : decode cX2_copyOf 94 = .ok (.iconst 0, 1) := by decide +kernel
theorem dX2_copyOf_95 : decode cX2_copyOf 95 = .ok (.aload_n 0, 1) := by decide +kernel
theorem dX2_copyOf_96 : decode cX2_copyOf 96 = .ok (.getfield 30, 3) := by decide +kernel
theorem dX2_copyOf_99 : decode cX2_copyOf 99 = .ok (.iconst 0, 1) := by decide +kernel
theorem dX2_copyOf_100 : decode cX2_copyOf 100 = .ok (.bipush 8, 2) := by decide +kernel
theorem dX2_copyOf_102 : decode cX2_copyOf 102 = .ok (.invokestatic 65, 3) := by decide +kernel
theorem dX2_copyOf_105 : decode cX2_copyOf 105 = .ok (.aload_n 0, 1) := by decide +kernel
theorem dX2_copyOf_106 : decode cX2_copyOf 106 = .ok (.aload_n 1, 1) := by decide +kernel
theorem dX2_copyOf_107 : decode cX2_copyOf 107 = .ok (.getfield 43, 3) := by decide +kernel
theorem dX2_copyOf_110 : decode cX2_copyOf 110 = .ok (.putfield 43, 3) := by decide +kernel
theorem dX2_copyOf_113 : decode cX2_copyOf 113 = .ok (.aload_n 0, 1) := by decide +kernel
theorem dX2_copyOf_114 : decode cX2_copyOf 114 = .ok (.aload_n 1, 1) := by decide +kernel
theorem dX2_copyOf_115 : decode cX2_copyOf 115 = .ok (.getfield 56, 3) := by decide +kernel
theorem dX2_copyOf_118 : decode cX2_copyOf 118 = .ok (.putfield 56, 3) := by decide +kernel
theorem dX2_copyOf_121 : decode cX2_copyOf 121 = .ok (.aload_n 0, 1) := by decide +kernel
theorem dX2_copyOf_122 : decode cX2_copyOf 122 = .ok (.aload_n 1, 1) := by decide +kernel
theorem dX2_copyOf_123 : decode cX2_copyOf 123 = .ok (.getfield 59, 3) := by decide +kernel
theorem dX2_copyOf_126 : decode cX2_copyOf 126 = .ok (.putfield 59, 3) := by decide +kernel
theorem dX2_copyOf_129 : decode cX2_copyOf 129 = .ok (.aload_n 0, 1) := by decide +kernel
theorem dX2_copyOf_130 : decode cX2_copyOf 130 = .ok (.aload_n 1, 1) := by decide +kernel
theorem dX2_copyOf_131 : decode cX2_copyOf 131 = .ok (.getfield 33, 3) := by decide +kernel
theorem dX2_copyOf_134 : decode cX2_copyOf 134 = .ok (.putfield 33, 3) := by decide +kernel
theorem dX2_copyOf_137 : decode cX2_copyOf 137 = .ok (.aload_n 0, 1) := by decide +kernel
theorem dX2_copyOf_138 : decode cX2_copyOf 138 = .ok (.aload_n 1, 1) := by decide +kernel
theorem dX2_copyOf_139 : decode cX2_copyOf 139 = .ok (.getfield 62, 3) := by decide +kernel
theorem dX2_copyOf_142 : decode cX2_copyOf 142 = .ok (.putfield 62, 3) := by decide +kernel
theorem dX2_copyOf_145 : decode cX2_copyOf 145 = .ok (.return_, 1) := by decide +kernel
theorem dX2_placeOf_0 : decode cX2_placeOf 0 = .ok (.iconst 0, 1) := by decide +kernel
theorem dX2_placeOf_1 : decode cX2_placeOf 1 = .ok (.istore_n 2, 1) := by decide +kernel
theorem dX2_placeOf_2 : decode cX2_placeOf 2 = .ok (.iload_n 2, 1) := by decide +kernel
theorem dX2_placeOf_3 : decode cX2_placeOf 3 = .ok (.aload_n 0, 1) := by decide +kernel
theorem dX2_placeOf_4 : decode cX2_placeOf 4 = .ok (.getfield 43, 3) := by decide +kernel
theorem dX2_placeOf_7 : decode cX2_placeOf 7 = .ok (.if_icmp .ge 21, 3) := by decide +kernel
theorem dX2_placeOf_10 : decode cX2_placeOf 10 = .ok (.aload_n 0, 1) := by decide +kernel
theorem dX2_placeOf_11 : decode cX2_placeOf 11 = .ok (.getfield 21, 3) := by decide +kernel
theorem dX2_placeOf_14 : decode cX2_placeOf 14 = .ok (.iload_n 2, 1) := by decide +kernel
theorem dX2_placeOf_15 : decode cX2_placeOf 15 = .ok (.iaload, 1) := by decide +kernel
theorem dX2_placeOf_16 : decode cX2_placeOf 16 = .ok (.iload_n 1, 1) := by decide +kernel
theorem dX2_placeOf_17 : decode cX2_placeOf 17 = .ok (.if_icmp .ne 5, 3) := by decide +kernel
theorem dX2_placeOf_20 : decode cX2_placeOf 20 = .ok (.iload_n 2, 1) := by decide +kernel
theorem dX2_placeOf_21 : decode cX2_placeOf 21 = .ok (.ireturn, 1) := by decide +kernel
theorem dX2_placeOf_22 : decode cX2_placeOf 22 = .ok (.iinc 2 1, 3) := by decide +kernel
theorem dX2_placeOf_25 : decode cX2_placeOf 25 = .ok (.goto (-23), 3) := by decide +kernel
theorem dX2_placeOf_28 : decode cX2_placeOf 28 = .ok (.iconst (-1), 1) := by decide +kernel
theorem dX2_placeOf_29 : decode cX2_placeOf 29 = .ok (.ireturn, 1) := by decide +kernel
theorem dX2_allPecks_0 : decode cX2_allPecks 0 = .ok (.iconst 0, 1) := by decide +kernel
theorem dX2_allPecks_1 : decode cX2_allPecks 1 = .ok (.istore_n 1, 1) := by decide +kernel
theorem dX2_allPecks_2 : decode cX2_allPecks 2 = .ok (.iconst 0, 1) := by decide +kernel
theorem dX2_allPecks_3 : decode cX2_allPecks 3 = .ok (.istore_n 2, 1) := by decide +kernel
theorem dX2_allPecks_4 : decode cX2_allPecks 4 = .ok (.iload_n 2, 1) := by decide +kernel
theorem dX2_allPecks_5 : decode cX2_allPecks 5 = .ok (.aload_n 0, 1) := by decide +kernel
theorem dX2_allPecks_6 : decode cX2_allPecks 6 = .ok (.getfield 43, 3) := by decide +kernel
theorem dX2_allPecks_9 : decode cX2_allPecks 9 = .ok (.if_icmp .ge 18, 3) := by decide +kernel
theorem dX2_allPecks_12 : decode cX2_allPecks 12 = .ok (.iload_n 1, 1) := by decide +kernel
theorem dX2_allPecks_13 : decode cX2_allPecks 13 = .ok (.aload_n 0, 1) := by decide +kernel
theorem dX2_allPecks_14 : decode cX2_allPecks 14 = .ok (.getfield 18, 3) := by decide +kernel
theorem dX2_allPecks_17 : decode cX2_allPecks 17 = .ok (.iload_n 2, 1) := by decide +kernel
theorem dX2_allPecks_18 : decode cX2_allPecks 18 = .ok (.iaload, 1) := by decide +kernel
theorem dX2_allPecks_19 : decode cX2_allPecks 19 = .ok (.iadd, 1) := by decide +kernel
theorem dX2_allPecks_20 : decode cX2_allPecks 20 = .ok (.istore_n 1, 1) := by decide +kernel
theorem dX2_allPecks_21 : decode cX2_allPecks 21 = .ok (.iinc 2 1, 3) := by decide +kernel
theorem dX2_allPecks_24 : decode cX2_allPecks 24 = .ok (.goto (-20), 3) := by decide +kernel
theorem dX2_allPecks_27 : decode cX2_allPecks 27 = .ok (.iload_n 1, 1) := by decide +kernel
theorem dX2_allPecks_28 : decode cX2_allPecks 28 = .ok (.ireturn, 1) := by decide +kernel
theorem dX2_note_0 : decode cX2_note 0 = .ok (.aload_n 0, 1) := by decide +kernel
theorem dX2_note_1 : decode cX2_note 1 = .ok (.getfield 62, 3) := by decide +kernel
theorem dX2_note_4 : decode cX2_note 4 = .ok (.bipush 8, 2) := by decide +kernel
theorem dX2_note_6 : decode cX2_note 6 = .ok (.if_icmp .lt 6, 3) := by decide +kernel
theorem dX2_note_9 : decode cX2_note 9 = .ok (.bipush (-104), 2) := by decide +kernel
theorem dX2_note_11 : decode cX2_note 11 = .ok (.ireturn, 1) := by decide +kernel
theorem dX2_note_12 : decode cX2_note 12 = .ok (.aload_n 0, 1) := by decide +kernel
theorem dX2_note_13 : decode cX2_note 13 = .ok (.getfield 24, 3) := by decide +kernel
theorem dX2_note_16 : decode cX2_note 16 = .ok (.aload_n 0, 1) := by decide +kernel
theorem dX2_note_17 : decode cX2_note 17 = .ok (.getfield 62, 3) := by decide +kernel
theorem dX2_note_20 : decode cX2_note 20 = .ok (.iload_n 1, 1) := by decide +kernel
theorem dX2_note_21 : decode cX2_note 21 = .ok (.iastore, 1) := by decide +kernel
theorem dX2_note_22 : decode cX2_note 22 = .ok (.aload_n 0, 1) := by decide +kernel
theorem dX2_note_23 : decode cX2_note 23 = .ok (.getfield 27, 3) := by decide +kernel
theorem dX2_note_26 : decode cX2_note 26 = .ok (.aload_n 0, 1) := by decide +kernel
theorem dX2_note_27 : decode cX2_note 27 = .ok (.getfield 62, 3) := by decide +kernel
theorem dX2_note_30 : decode cX2_note 30 = .ok (.iload_n 2, 1) := by decide +kernel
theorem dX2_note_31 : decode cX2_note 31 = .ok (.iastore, 1) := by decide +kernel
theorem dX2_note_32 : decode cX2_note 32 = .ok (.aload_n 0, 1) := by decide +kernel
theorem dX2_note_33 : decode cX2_note 33 = .ok (.getfield 30, 3) := by decide +kernel
theorem dX2_note_36 : decode cX2_note 36 = .ok (.aload_n 0, 1) := by decide +kernel
theorem dX2_note_37 : decode cX2_note 37 = .ok (.getfield 62, 3) := by decide +kernel
theorem dX2_note_40 : decode cX2_note 40 = .ok (.iload_n 3, 1) := by decide +kernel
theorem dX2_note_41 : decode cX2_note 41 = .ok (.iastore, 1) := by decide +kernel
theorem dX2_note_42 : decode cX2_note 42 = .ok (.aload_n 0, 1) := by decide +kernel
theorem dX2_note_43 : decode cX2_note 43 = .ok (.dup, 1) := by decide +kernel
theorem dX2_note_44 : decode cX2_note 44 = .ok (.getfield 62, 3) := by decide +kernel
theorem dX2_note_47 : decode cX2_note 47 = .ok (.iconst 1, 1) := by decide +kernel
theorem dX2_note_48 : decode cX2_note 48 = .ok (.iadd, 1) := by decide +kernel
theorem dX2_note_49 : decode cX2_note 49 = .ok (.putfield 62, 3) := by decide +kernel
theorem dX2_note_52 : decode cX2_note 52 = .ok (.aload_n 0, 1) := by decide +kernel
theorem dX2_note_53 : decode cX2_note 53 = .ok (.getfield 62, 3) := by decide +kernel
theorem dX2_note_56 : decode cX2_note 56 = .ok (.ireturn, 1) := by decide +kernel
theorem dX2_allSeenIn_0 : decode cX2_allSeenIn 0 = .ok (.iconst 0, 1) := by decide +kernel
theorem dX2_allSeenIn_1 : decode cX2_allSeenIn 1 = .ok (.istore_n 2, 1) := by decide +kernel
theorem dX2_allSeenIn_2 : decode cX2_allSeenIn 2 = .ok (.iload_n 2, 1) := by decide +kernel
theorem dX2_allSeenIn_3 : decode cX2_allSeenIn 3 = .ok (.aload_n 0, 1) := by decide +kernel
theorem dX2_allSeenIn_4 : decode cX2_allSeenIn 4 = .ok (.getfield 62, 3) := by decide +kernel
theorem dX2_allSeenIn_7 : decode cX2_allSeenIn 7 = .ok (.if_icmp .ge 36, 3) := by decide +kernel
theorem dX2_allSeenIn_10 : decode cX2_allSeenIn 10 = .ok (.aload_n 1, 1) := by decide +kernel
theorem dX2_allSeenIn_11 : decode cX2_allSeenIn 11 = .ok (.aload_n 0, 1) := by decide +kernel
theorem dX2_allSeenIn_12 : decode cX2_allSeenIn 12 = .ok (.getfield 24, 3) := by decide +kernel
theorem dX2_allSeenIn_15 : decode cX2_allSeenIn 15 = .ok (.iload_n 2, 1) := by decide +kernel
theorem dX2_allSeenIn_16 : decode cX2_allSeenIn 16 = .ok (.iaload, 1) := by decide +kernel
theorem dX2_allSeenIn_17 : decode cX2_allSeenIn 17 = .ok (.aload_n 0, 1) := by decide +kernel
theorem dX2_allSeenIn_18 : decode cX2_allSeenIn 18 = .ok (.getfield 27, 3) := by decide +kernel
theorem dX2_allSeenIn_21 : decode cX2_allSeenIn 21 = .ok (.iload_n 2, 1) := by decide +kernel
theorem dX2_allSeenIn_22 : decode cX2_allSeenIn 22 = .ok (.iaload, 1) := by decide +kernel
theorem dX2_allSeenIn_23 : decode cX2_allSeenIn 23 = .ok (.invokevirtual 71, 3) := by decide +kernel
theorem dX2_allSeenIn_26 : decode cX2_allSeenIn 26 = .ok (.aload_n 0, 1) := by decide +kernel
theorem dX2_allSeenIn_27 : decode cX2_allSeenIn 27 = .ok (.getfield 30, 3) := by decide +kernel
theorem dX2_allSeenIn_30 : decode cX2_allSeenIn 30 = .ok (.iload_n 2, 1) := by decide +kernel
theorem dX2_allSeenIn_31 : decode cX2_allSeenIn 31 = .ok (.iaload, 1) := by decide +kernel
theorem dX2_allSeenIn_32 : decode cX2_allSeenIn 32 = .ok (.if_icmp .eq 5, 3) := by decide +kernel
theorem dX2_allSeenIn_35 : decode cX2_allSeenIn 35 = .ok (.iconst 0, 1) := by decide +kernel
theorem dX2_allSeenIn_36 : decode cX2_allSeenIn 36 = .ok (.ireturn, 1) := by decide +kernel
theorem dX2_allSeenIn_37 : decode cX2_allSeenIn 37 = .ok (.iinc 2 1, 3) := by decide +kernel
theorem dX2_allSeenIn_40 : decode cX2_allSeenIn 40 = .ok (.goto (-38), 3) := by decide +kernel
theorem dX2_allSeenIn_43 : decode cX2_allSeenIn 43 = .ok (.iconst 1, 1) := by decide +kernel
theorem dX2_allSeenIn_44 : decode cX2_allSeenIn 44 = .ok (.ireturn, 1) := by decide +kernel
theorem dX3_init_0 : decode cX3_init 0 = .ok (.aload_n 0, 1) := by decide +kernel
theorem dX3_init_1 : decode cX3_init 1 = .ok (.invokespecial 1, 3) := by decide +kernel
theorem dX3_init_4 : decode cX3_init 4 = .ok (.aload_n 0, 1) := by decide +kernel
theorem dX3_init_5 : decode cX3_init 5 = .ok (.new 7, 3) := by decide +kernel
theorem dX3_init_8 : decode cX3_init 8 = .ok (.dup, 1) := by decide +kernel
theorem dX3_init_9 : decode cX3_init 9 = .ok (.invokespecial 9, 3) := by decide +kernel
theorem dX3_init_12 : decode cX3_init 12 = .ok (.putfield 10, 3) := by decide +kernel
theorem dX3_init_15 : decode cX3_init 15 = .ok (.aload_n 0, 1) := by decide +kernel
theorem dX3_init_16 : decode cX3_init 16 = .ok (.new 16, 3) := by decide +kernel
theorem dX3_init_19 : decode cX3_init 19 = .ok (.dup, 1) := by decide +kernel
theorem dX3_init_20 : decode cX3_init 20 = .ok (.invokespecial 18, 3) := by decide +kernel
theorem dX3_init_23 : decode cX3_init 23 = .ok (.putfield 19, 3) := by decide +kernel
theorem dX3_init_26 : decode cX3_init 26 = .ok (.aload_n 0, 1) := by decide +kernel
theorem dX3_init_27 : decode cX3_init 27 = .ok (.new 16, 3) := by decide +kernel
theorem dX3_init_30 : decode cX3_init 30 = .ok (.dup, 1) := by decide +kernel
theorem dX3_init_31 : decode cX3_init 31 = .ok (.invokespecial 18, 3) := by decide +kernel
theorem dX3_init_34 : decode cX3_init 34 = .ok (.putfield 23, 3) := by decide +kernel
theorem dX3_init_37 : decode cX3_init 37 = .ok (.aload_n 0, 1) := by decide +kernel
theorem dX3_init_38 : decode cX3_init 38 = .ok (.new 26, 3) := by decide +kernel
theorem dX3_init_41 : decode cX3_init 41 = .ok (.dup, 1) := by decide +kernel
theorem dX3_init_42 : decode cX3_init 42 = .ok (.invokespecial 28, 3) := by decide +kernel
theorem dX3_init_45 : decode cX3_init 45 = .ok (.putfield 29, 3) := by decide +kernel
theorem dX3_init_48 : decode cX3_init 48 = .ok (.aload_n 0, 1) := by decide +kernel
theorem dX3_init_49 : decode cX3_init 49 = .ok (.bipush 8, 2) := by decide +kernel
theorem dX3_init_51 : decode cX3_init 51 = .ok (.newarray .int, 2) := by decide +kernel
theorem dX3_init_53 : decode cX3_init 53 = .ok (.putfield 33, 3) := by decide +kernel
theorem dX3_init_56 : decode cX3_init 56 = .ok (.aload_n 0, 1) := by decide +kernel
theorem dX3_init_57 : decode cX3_init 57 = .ok (.bipush 48, 2) := by decide +kernel
theorem dX3_init_59 : decode cX3_init 59 = .ok (.newarray .int, 2) := by decide +kernel
theorem dX3_init_61 : decode cX3_init 61 = .ok (.putfield 37, 3) := by decide +kernel
theorem dX3_init_64 : decode cX3_init 64 = .ok (.return_, 1) := by decide +kernel
theorem dX3_letter_0 : decode cX3_letter 0 = .ok (.iload_n 1, 1) := by decide +kernel
theorem dX3_letter_1 : decode cX3_letter 1 = .ok (.iconst 1, 1) := by decide +kernel
theorem dX3_letter_2 : decode cX3_letter 2 = .ok (.if_icmp .lt 9, 3) := by decide +kernel
theorem dX3_letter_5 : decode cX3_letter 5 = .ok (.iload_n 1, 1) := by decide +kernel
theorem dX3_letter_6 : decode cX3_letter 6 = .ok (.bipush 126, 2) := by decide +kernel
theorem dX3_letter_8 : decode cX3_letter 8 = .ok (.if_icmp .le 6, 3) := by decide +kernel
theorem dX3_letter_11 : decode cX3_letter 11 = .ok (.bipush (-102), 2) := by decide +kernel
theorem dX3_letter_13 : decode cX3_letter 13 = .ok (.ireturn, 1) := by decide +kernel
theorem dX3_letter_14 : decode cX3_letter 14 = .ok (.aload_n 0, 1) := by decide +kernel
theorem dX3_letter_15 : decode cX3_letter 15 = .ok (.getfield 10, 3) := by decide +kernel
theorem dX3_letter_18 : decode cX3_letter 18 = .ok (.iload_n 1, 1) := by decide +kernel
theorem dX3_letter_19 : decode cX3_letter 19 = .ok (.i2c, 1) := by decide +kernel
theorem dX3_letter_20 : decode cX3_letter 20 = .ok (.invokevirtual 40, 3) := by decide +kernel
theorem dX3_letter_23 : decode cX3_letter 23 = .ok (.ireturn, 1) := by decide +kernel
theorem dX3_blank_0 : decode cX3_blank 0 = .ok (.aload_n 0, 1) := by decide +kernel
theorem dX3_blank_1 : decode cX3_blank 1 = .ok (.getfield 10, 3) := by decide +kernel
theorem dX3_blank_4 : decode cX3_blank 4 = .ok (.invokevirtual 44, 3) := by decide +kernel
theorem dX3_blank_7 : decode cX3_blank 7 = .ok (.ireturn, 1) := by decide +kernel
theorem dX3_fault_0 : decode cX3_fault 0 = .ok (.aload_n 0, 1) := by decide +kernel
theorem dX3_fault_1 : decode cX3_fault 1 = .ok (.getfield 10, 3) := by decide +kernel
theorem dX3_fault_4 : decode cX3_fault 4 = .ok (.invokevirtual 48, 3) := by decide +kernel
theorem dX3_fault_7 : decode cX3_fault 7 = .ok (.ireturn, 1) := by decide +kernel
theorem dX3_ring_0 : decode cX3_ring 0 = .ok (.aload_n 0, 1) := by decide +kernel
theorem dX3_ring_1 : decode cX3_ring 1 = .ok (.getfield 10, 3) := by decide +kernel
theorem dX3_ring_4 : decode cX3_ring 4 = .ok (.invokevirtual 51, 3) := by decide +kernel
theorem dX3_ring_7 : decode cX3_ring 7 = .ok (.ifCond .ne 6, 3) := by decide +kernel
theorem dX3_ring_10 : decode cX3_ring 10 = .ok (.bipush (-103), 2) := by decide +kernel
theorem dX3_ring_12 : decode cX3_ring 12 = .ok (.ireturn, 1) := by decide +kernel
theorem dX3_ring_13 : decode cX3_ring 13 = .ok (.aload_n 0, 1) := by decide +kernel
theorem dX3_ring_14 : decode cX3_ring 14 = .ok (.getfield 19, 3) := by decide +kernel
theorem dX3_ring_17 : decode cX3_ring 17 = .ok (.aload_n 0, 1) := by decide +kernel
theorem dX3_ring_18 : decode cX3_ring 18 = .ok (.getfield 10, 3) := by decide +kernel
theorem dX3_ring_21 : decode cX3_ring 21 = .ok (.invokevirtual 55, 3) := by decide +kernel
theorem dX3_ring_24 : decode cX3_ring 24 = .ok (.aload_n 0, 1) := by decide +kernel
theorem dX3_ring_25 : decode cX3_ring 25 = .ok (.getfield 10, 3) := by decide +kernel
theorem dX3_ring_28 : decode cX3_ring 28 = .ok (.invokevirtual 44, 3) := by decide +kernel
theorem dX3_ring_31 : decode cX3_ring 31 = .ok (.pop, 1) := by decide +kernel
theorem dX3_ring_32 : decode cX3_ring 32 = .ok (.aload_n 0, 1) := by decide +kernel
theorem dX3_ring_33 : decode cX3_ring 33 = .ok (.iconst 0, 1) := by decide +kernel
theorem dX3_ring_34 : decode cX3_ring 34 = .ok (.putfield 59, 3) := by decide +kernel
theorem dX3_ring_37 : decode cX3_ring 37 = .ok (.aload_n 0, 1) := by decide +kernel
theorem dX3_ring_38 : decode cX3_ring 38 = .ok (.dup, 1) := by decide +kernel
theorem dX3_ring_39 : decode cX3_ring 39 = .ok (.getfield 63, 3) := by decide +kernel
theorem dX3_ring_42 : decode cX3_ring 42 = .ok (.iconst 1, 1) := by decide +kernel
theorem dX3_ring_43 : decode cX3_ring 43 = .ok (.iadd, 1) := by decide +kernel
theorem dX3_ring_44 : decode cX3_ring 44 = .ok (.putfield 63, 3) := by decide +kernel
theorem dX3_ring_47 : decode cX3_ring 47 = .ok (.aload_n 0, 1) := by decide +kernel
theorem dX3_ring_48 : decode cX3_ring 48 = .ok (.getfield 19, 3) := by decide +kernel
theorem dX3_ring_51 : decode cX3_ring 51 = .ok (.getfield 67, 3) := by decide +kernel
theorem dX3_ring_54 : decode cX3_ring 54 = .ok (.ireturn, 1) := by decide +kernel
theorem dX3_about_0 : decode cX3_about 0 = .ok (.aload_n 0, 1) := by decide +kernel
theorem dX3_about_1 : decode cX3_about 1 = .ok (.iload_n 1, 1) := by decide +kernel
theorem dX3_about_2 : decode cX3_about 2 = .ok (.invokevirtual 70, 3) := by decide +kernel
theorem dX3_about_5 : decode cX3_about 5 = .ok (.ifCond .ne 6, 3) := by decide +kernel
theorem dX3_about_8 : decode cX3_about 8 = .ok (.bipush (-101), 2) := by decide +kernel
theorem dX3_about_10 : decode cX3_about 10 = .ok (.ireturn, 1) := by decide +kernel
theorem dX3_about_11 : decode cX3_about 11 = .ok (.iload_n 2, 1) := by decide +kernel
theorem dX3_about_12 : decode cX3_about 12 = .ok (.tableswitch 71 0 3 #[32, 42, 52, 61], 32) := by decide +kernel
theorem dX3_about_44 : decode cX3_about 44 = .ok (.aload_n 0, 1) := by decide +kernel
theorem dX3_about_45 : decode cX3_about 45 = .ok (.getfield 19, 3) := by decide +kernel
theorem dX3_about_48 : decode cX3_about 48 = .ok (.getfield 74, 3) := by decide +kernel
theorem dX3_about_51 : decode cX3_about 51 = .ok (.iload_n 1, 1) := by decide +kernel
theorem dX3_about_52 : decode cX3_about 52 = .ok (.iaload, 1) := by decide +kernel
theorem dX3_about_53 : decode cX3_about 53 = .ok (.ireturn, 1) := by decide +kernel
theorem dX3_about_54 : decode cX3_about 54 = .ok (.aload_n 0, 1) := by decide +kernel
theorem dX3_about_55 : decode cX3_about 55 = .ok (.getfield 19, 3) := by decide +kernel
theorem dX3_about_58 : decode cX3_about 58 = .ok (.getfield 77, 3) := by decide +kernel
theorem dX3_about_61 : decode cX3_about 61 = .ok (.iload_n 1, 1) := by decide +kernel
theorem dX3_about_62 : decode cX3_about 62 = .ok (.iaload, 1) := by decide +kernel
theorem dX3_about_63 : decode cX3_about 63 = .ok (.ireturn, 1) := by decide +kernel
theorem dX3_about_64 : decode cX3_about 64 = .ok (.aload_n 0, 1) := by decide +kernel
theorem dX3_about_65 : decode cX3_about 65 = .ok (.getfield 19, 3) := by decide +kernel
theorem dX3_about_68 : decode cX3_about 68 = .ok (.iload_n 1, 1) := by decide +kernel
theorem dX3_about_69 : decode cX3_about 69 = .ok (.invokevirtual 80, 3) := by decide +kernel
theorem dX3_about_72 : decode cX3_about 72 = .ok (.ireturn, 1) := by decide +kernel
theorem dX3_about_73 : decode cX3_about 73 = .ok (.aload_n 0, 1) := by decide +kernel
theorem dX3_about_74 : decode cX3_about 74 = .ok (.getfield 19, 3) := by decide +kernel
theorem dX3_about_77 : decode cX3_about 77 = .ok (.getfield 84, 3) := by decide +kernel
theorem dX3_about_80 : decode cX3_about 80 = .ok (.iload_n 1, 1) := by decide +kernel
theorem dX3_about_81 : decode cX3_about 81 = .ok (.iaload, 1) := by decide +kernel
theorem dX3_about_82 : decode cX3_about 82 = .ok (.ireturn, 1) := by decide +kernel
theorem dX3_about_83 : decode cX3_about 83 = .ok (.iload_n 2, 1) := by decide +kernel
theorem dX3_about_84 : decode cX3_about 84 = .ok (.bipush 10, 2) := by decide +kernel
theorem dX3_about_86 : decode cX3_about 86 = .ok (.if_icmp .lt 21, 3) := by decide +kernel
theorem dX3_about_89 : decode cX3_about 89 = .ok (.iload_n 2, 1) := by decide +kernel
theorem dX3_about_90 : decode cX3_about 90 = .ok (.bipush 18, 2) := by decide +kernel
theorem dX3_about_92 : decode cX3_about 92 = .ok (.if_icmp .ge 15, 3) := by decide +kernel
theorem dX3_about_95 : decode cX3_about 95 = .ok (.aload_n 0, 1) := by decide +kernel
theorem dX3_about_96 : decode cX3_about 96 = .ok (.iload_n 1, 1) := by decide +kernel
theorem dX3_about_97 : decode cX3_about 97 = .ok (.iload_n 2, 1) := by decide +kernel
theorem dX3_about_98 : decode cX3_about 98 = .ok (.bipush 10, 2) := by decide +kernel
theorem dX3_about_100 : decode cX3_about 100 = .ok (.isub, 1) := by decide +kernel
theorem dX3_about_101 : decode cX3_about 101 = .ok (.invokevirtual 87, 3) := by decide +kernel
theorem dX3_about_104 : decode cX3_about 104 = .ok (.goto 5, 3) := by decide +kernel
theorem dX3_about_107 : decode cX3_about 107 = .ok (.bipush (-102), 2) := by decide +kernel
theorem dX3_about_109 : decode cX3_about 109 = .ok (.ireturn, 1) := by decide +kernel
theorem dX3_as_0 : decode cX3_as 0 = .ok (.aload_n 0, 1) := by decide +kernel
theorem dX3_as_1 : decode cX3_as 1 = .ok (.iload_n 1, 1) := by decide +kernel
theorem dX3_as_2 : decode cX3_as 2 = .ok (.invokevirtual 70, 3) := by decide +kernel
theorem dX3_as_5 : decode cX3_as 5 = .ok (.ifCond .ne 6, 3) := by decide +kernel
theorem dX3_as_8 : decode cX3_as 8 = .ok (.bipush (-101), 2) := by decide +kernel
theorem dX3_as_10 : decode cX3_as 10 = .ok (.ireturn, 1) := by decide +kernel
theorem dX3_as_11 : decode cX3_as 11 = .ok (.iload_n 2, 1) := by decide +kernel
theorem dX3_as_12 : decode cX3_as 12 = .ok (.ifCond .lt 8, 3) := by decide +kernel
theorem dX3_as_15 : decode cX3_as 15 = .ok (.iload_n 2, 1) := by decide +kernel
theorem dX3_as_16 : decode cX3_as 16 = .ok (.iconst 5, 1) := by decide +kernel
theorem dX3_as_17 : decode cX3_as 17 = .ok (.if_icmp .lt 6, 3) := by decide +kernel
theorem dX3_as_20 : decode cX3_as 20 = .ok (.bipush (-102), 2) := by decide +kernel
theorem dX3_as_22 : decode cX3_as 22 = .ok (.ireturn, 1) := by decide +kernel
theorem dX3_as_23 : decode cX3_as 23 = .ok (.aload_n 0, 1) := by decide +kernel
theorem dX3_as_24 : decode cX3_as 24 = .ok (.getfield 19, 3) := by decide +kernel
theorem dX3_as_27 : decode cX3_as 27 = .ok (.getfield 74, 3) := by decide +kernel
theorem dX3_as_30 : decode cX3_as 30 = .ok (.iload_n 1, 1) := by decide +kernel
theorem dX3_as_31 : decode cX3_as 31 = .ok (.iaload, 1) := by decide +kernel
theorem dX3_as_32 : decode cX3_as 32 = .ok (.iload_n 2, 1) := by decide +kernel
theorem dX3_as_33 : decode cX3_as 33 = .ok (.invokestatic 91, 3) := by decide +kernel
theorem dX3_as_36 : decode cX3_as 36 = .ok (.ifCond .eq 7, 3) := by decide +kernel
theorem dX3_as_39 : decode cX3_as 39 = .ok (.iload_n 1, 1) := by decide +kernel
theorem dX3_as_40 : decode cX3_as 40 = .ok (.goto 4, 3) := by decide +kernel
theorem dX3_as_43 : decode cX3_as 43 = .ok (.iconst (-1), 1) := by decide +kernel
theorem dX3_as_44 : decode cX3_as 44 = .ok (.ireturn, 1) := by decide +kernel
theorem dX3_seat_0 : decode cX3_seat 0 = .ok (.aload_n 0, 1) := by decide +kernel
theorem dX3_seat_1 : decode cX3_seat 1 = .ok (.iload_n 1, 1) := by decide +kernel
theorem dX3_seat_2 : decode cX3_seat 2 = .ok (.invokevirtual 70, 3) := by decide +kernel
theorem dX3_seat_5 : decode cX3_seat 5 = .ok (.ifCond .eq 15, 3) := by decide +kernel
theorem dX3_seat_8 : decode cX3_seat 8 = .ok (.aload_n 0, 1) := by decide +kernel
theorem dX3_seat_9 : decode cX3_seat 9 = .ok (.getfield 19, 3) := by decide +kernel
theorem dX3_seat_12 : decode cX3_seat 12 = .ok (.getfield 95, 3) := by decide +kernel
theorem dX3_seat_15 : decode cX3_seat 15 = .ok (.iload_n 1, 1) := by decide +kernel
theorem dX3_seat_16 : decode cX3_seat 16 = .ok (.iaload, 1) := by decide +kernel
theorem dX3_seat_17 : decode cX3_seat 17 = .ok (.goto 5, 3) := by decide +kernel
theorem dX3_seat_20 : decode cX3_seat 20 = .ok (.bipush (-101), 2) := by decide +kernel
theorem dX3_seat_22 : decode cX3_seat 22 = .ok (.ireturn, 1) := by decide +kernel
theorem dX3_exchange_0 : decode cX3_exchange 0 = .ok (.aload_n 0, 1) := by decide +kernel
theorem dX3_exchange_1 : decode cX3_exchange 1 = .ok (.iload_n 1, 1) := by decide +kernel
theorem dX3_exchange_2 : decode cX3_exchange 2 = .ok (.invokevirtual 70, 3) := by decide +kernel
theorem dX3_exchange_5 : decode cX3_exchange 5 = .ok (.ifCond .eq 11, 3) := by decide +kernel
theorem dX3_exchange_8 : decode cX3_exchange 8 = .ok (.aload_n 0, 1) := by decide +kernel
theorem dX3_exchange_9 : decode cX3_exchange 9 = .ok (.iload_n 2, 1) := by decide +kernel
theorem dX3_exchange_10 : decode cX3_exchange 10 = .ok (.invokevirtual 70, 3) := by decide +kernel
theorem dX3_exchange_13 : decode cX3_exchange 13 = .ok (.ifCond .ne 6, 3) := by decide +kernel
theorem dX3_exchange_16 : decode cX3_exchange 16 = .ok (.bipush (-101), 2) := by decide +kernel
theorem dX3_exchange_18 : decode cX3_exchange 18 = .ok (.ireturn, 1) := by decide +kernel
theorem dX3_exchange_19 : decode cX3_exchange 19 = .ok (.aload_n 0, 1) := by decide +kernel
theorem dX3_exchange_20 : decode cX3_exchange 20 = .ok (.getfield 19, 3) := by decide +kernel
theorem dX3_exchange_23 : decode cX3_exchange 23 = .ok (.getfield 95, 3) := by decide +kernel
theorem dX3_exchange_26 : decode cX3_exchange 26 = .ok (.iload_n 1, 1) := by decide +kernel
theorem dX3_exchange_27 : decode cX3_exchange 27 = .ok (.iaload, 1) := by decide +kernel
theorem dX3_exchange_28 : decode cX3_exchange 28 = .ok (.istore_n 3, 1) := by decide +kernel
theorem dX3_exchange_29 : decode cX3_exchange 29 = .ok (.aload_n 0, 1) := by decide +kernel
theorem dX3_exchange_30 : decode cX3_exchange 30 = .ok (.getfield 19, 3) := by decide +kernel
theorem dX3_exchange_33 : decode cX3_exchange 33 = .ok (.getfield 95, 3) := by decide +kernel
theorem dX3_exchange_36 : decode cX3_exchange 36 = .ok (.iload_n 1, 1) := by decide +kernel
theorem dX3_exchange_37 : decode cX3_exchange 37 = .ok (.aload_n 0, 1) := by decide +kernel
theorem dX3_exchange_38 : decode cX3_exchange 38 = .ok (.getfield 19, 3) := by decide +kernel
theorem dX3_exchange_41 : decode cX3_exchange 41 = .ok (.getfield 95, 3) := by decide +kernel
theorem dX3_exchange_44 : decode cX3_exchange 44 = .ok (.iload_n 2, 1) := by decide +kernel
theorem dX3_exchange_45 : decode cX3_exchange 45 = .ok (.iaload, 1) := by decide +kernel
theorem dX3_exchange_46 : decode cX3_exchange 46 = .ok (.iastore, 1) := by decide +kernel
theorem dX3_exchange_47 : decode cX3_exchange 47 = .ok (.aload_n 0, 1) := by decide +kernel
theorem dX3_exchange_48 : decode cX3_exchange 48 = .ok (.getfield 19, 3) := by decide +kernel
theorem dX3_exchange_51 : decode cX3_exchange 51 = .ok (.getfield 95, 3) := by decide +kernel
theorem dX3_exchange_54 : decode cX3_exchange 54 = .ok (.iload_n 2, 1) := by decide +kernel
theorem dX3_exchange_55 : decode cX3_exchange 55 = .ok (.iload_n 3, 1) := by decide +kernel
theorem dX3_exchange_56 : decode cX3_exchange 56 = .ok (.iastore, 1) := by decide +kernel
theorem dX3_exchange_57 : decode cX3_exchange 57 = .ok (.aload_n 0, 1) := by decide +kernel
theorem dX3_exchange_58 : decode cX3_exchange 58 = .ok (.getfield 19, 3) := by decide +kernel
theorem dX3_exchange_61 : decode cX3_exchange 61 = .ok (.getfield 95, 3) := by decide +kernel
theorem dX3_exchange_64 : decode cX3_exchange 64 = .ok (.iload_n 1, 1) := by decide +kernel
theorem dX3_exchange_65 : decode cX3_exchange 65 = .ok (.iaload, 1) := by decide +kernel
theorem dX3_exchange_66 : decode cX3_exchange 66 = .ok (.ireturn, 1) := by decide +kernel
theorem dX3_twig_0 : decode cX3_twig 0 = .ok (.aload_n 0, 1) := by decide +kernel
theorem dX3_twig_1 : decode cX3_twig 1 = .ok (.iload_n 1, 1) := by decide +kernel
theorem dX3_twig_2 : decode cX3_twig 2 = .ok (.invokevirtual 70, 3) := by decide +kernel
theorem dX3_twig_5 : decode cX3_twig 5 = .ok (.ifCond .ne 6, 3) := by decide +kernel
theorem dX3_twig_8 : decode cX3_twig 8 = .ok (.bipush (-101), 2) := by decide +kernel
theorem dX3_twig_10 : decode cX3_twig 10 = .ok (.ireturn, 1) := by decide +kernel
theorem dX3_twig_11 : decode cX3_twig 11 = .ok (.iload_n 2, 1) := by decide +kernel
theorem dX3_twig_12 : decode cX3_twig 12 = .ok (.invokestatic 98, 3) := by decide +kernel
theorem dX3_twig_15 : decode cX3_twig 15 = .ok (.ifCond .ne 6, 3) := by decide +kernel
theorem dX3_twig_18 : decode cX3_twig 18 = .ok (.bipush (-102), 2) := by decide +kernel
theorem dX3_twig_20 : decode cX3_twig 20 = .ok (.ireturn, 1) := by decide +kernel
theorem dX3_twig_21 : decode cX3_twig 21 = .ok (.aload_n 0, 1) := by decide +kernel
theorem dX3_twig_22 : decode cX3_twig 22 = .ok (.getfield 19, 3) := by decide +kernel
theorem dX3_twig_25 : decode cX3_twig 25 = .ok (.getfield 77, 3) := by decide +kernel
theorem dX3_twig_28 : decode cX3_twig 28 = .ok (.iload_n 1, 1) := by decide +kernel
theorem dX3_twig_29 : decode cX3_twig 29 = .ok (.iaload, 1) := by decide +kernel
theorem dX3_twig_30 : decode cX3_twig 30 = .ok (.istore_n 3, 1) := by decide +kernel
theorem dX3_twig_31 : decode cX3_twig 31 = .ok (.aload_n 0, 1) := by decide +kernel
theorem dX3_twig_32 : decode cX3_twig 32 = .ok (.getfield 19, 3) := by decide +kernel
theorem dX3_twig_35 : decode cX3_twig 35 = .ok (.getfield 77, 3) := by decide +kernel
theorem dX3_twig_38 : decode cX3_twig 38 = .ok (.iload_n 1, 1) := by decide +kernel
theorem dX3_twig_39 : decode cX3_twig 39 = .ok (.iload_n 2, 1) := by decide +kernel
theorem dX3_twig_40 : decode cX3_twig 40 = .ok (.iastore, 1) := by decide +kernel
theorem dX3_twig_41 : decode cX3_twig 41 = .ok (.iload_n 3, 1) := by decide +kernel
theorem dX3_twig_42 : decode cX3_twig 42 = .ok (.ireturn, 1) := by decide +kernel
theorem dX3_wind_0 : decode cX3_wind 0 = .ok (.iload_n 1, 1) := by decide +kernel
theorem dX3_wind_1 : decode cX3_wind 1 = .ok (.ifCond .lt 8, 3) := by decide +kernel
theorem dX3_wind_4 : decode cX3_wind 4 = .ok (.iload_n 1, 1) := by decide +kernel
theorem dX3_wind_5 : decode cX3_wind 5 = .ok (.iconst 1, 1) := by decide +kernel
theorem dX3_wind_6 : decode cX3_wind 6 = .ok (.if_icmp .le 6, 3) := by decide +kernel
theorem dX3_wind_9 : decode cX3_wind 9 = .ok (.bipush (-102), 2) := by decide +kernel
theorem dX3_wind_11 : decode cX3_wind 11 = .ok (.ireturn, 1) := by decide +kernel
theorem dX3_wind_12 : decode cX3_wind 12 = .ok (.aload_n 0, 1) := by decide +kernel
theorem dX3_wind_13 : decode cX3_wind 13 = .ok (.invokevirtual 101, 3) := by decide +kernel
theorem dX3_wind_16 : decode cX3_wind 16 = .ok (.ifCond .ne 6, 3) := by decide +kernel
theorem dX3_wind_19 : decode cX3_wind 19 = .ok (.bipush (-103), 2) := by decide +kernel
theorem dX3_wind_21 : decode cX3_wind 21 = .ok (.ireturn, 1) := by decide +kernel
theorem dX3_wind_22 : decode cX3_wind 22 = .ok (.aload_n 0, 1) := by decide +kernel
theorem dX3_wind_23 : decode cX3_wind 23 = .ok (.getfield 19, 3) := by decide +kernel
theorem dX3_wind_26 : decode cX3_wind 26 = .ok (.getfield 104, 3) := by decide +kernel
theorem dX3_wind_29 : decode cX3_wind 29 = .ok (.istore_n 2, 1) := by decide +kernel
theorem dX3_wind_30 : decode cX3_wind 30 = .ok (.aload_n 0, 1) := by decide +kernel
theorem dX3_wind_31 : decode cX3_wind 31 = .ok (.getfield 19, 3) := by decide +kernel
theorem dX3_wind_34 : decode cX3_wind 34 = .ok (.iload_n 1, 1) := by decide +kernel
theorem dX3_wind_35 : decode cX3_wind 35 = .ok (.putfield 104, 3) := by decide +kernel
theorem dX3_wind_38 : decode cX3_wind 38 = .ok (.iload_n 2, 1) := by decide +kernel
theorem dX3_wind_39 : decode cX3_wind 39 = .ok (.ireturn, 1) := by decide +kernel
theorem dX3_comes_0 : decode cX3_comes 0 = .ok (.aload_n 0, 1) := by decide +kernel
theorem dX3_comes_1 : decode cX3_comes 1 = .ok (.iload_n 1, 1) := by decide +kernel
theorem dX3_comes_2 : decode cX3_comes 2 = .ok (.invokevirtual 70, 3) := by decide +kernel
theorem dX3_comes_5 : decode cX3_comes 5 = .ok (.ifCond .ne 6, 3) := by decide +kernel
theorem dX3_comes_8 : decode cX3_comes 8 = .ok (.bipush (-101), 2) := by decide +kernel
theorem dX3_comes_10 : decode cX3_comes 10 = .ok (.ireturn, 1) := by decide +kernel
theorem dX3_comes_11 : decode cX3_comes 11 = .ok (.iload_n 2, 1) := by decide +kernel
theorem dX3_comes_12 : decode cX3_comes 12 = .ok (.invokestatic 98, 3) := by decide +kernel
theorem dX3_comes_15 : decode cX3_comes 15 = .ok (.ifCond .ne 6, 3) := by decide +kernel
theorem dX3_comes_18 : decode cX3_comes 18 = .ok (.bipush (-102), 2) := by decide +kernel
theorem dX3_comes_20 : decode cX3_comes 20 = .ok (.ireturn, 1) := by decide +kernel
theorem dX3_comes_21 : decode cX3_comes 21 = .ok (.aload_n 0, 1) := by decide +kernel
theorem dX3_comes_22 : decode cX3_comes 22 = .ok (.getfield 29, 3) := by decide +kernel
theorem dX3_comes_25 : decode cX3_comes 25 = .ok (.aload_n 0, 1) := by decide +kernel
theorem dX3_comes_26 : decode cX3_comes 26 = .ok (.getfield 19, 3) := by decide +kernel
theorem dX3_comes_29 : decode cX3_comes 29 = .ok (.invokevirtual 107, 3) := by decide +kernel
theorem dX3_comes_32 : decode cX3_comes 32 = .ok (.aload_n 0, 1) := by decide +kernel
theorem dX3_comes_33 : decode cX3_comes 33 = .ok (.getfield 29, 3) := by decide +kernel
theorem dX3_comes_36 : decode cX3_comes 36 = .ok (.iload_n 1, 1) := by decide +kernel
theorem dX3_comes_37 : decode cX3_comes 37 = .ok (.iload_n 2, 1) := by decide +kernel
theorem dX3_comes_38 : decode cX3_comes 38 = .ok (.invokevirtual 111, 3) := by decide +kernel
theorem dX3_comes_41 : decode cX3_comes 41 = .ok (.ireturn, 1) := by decide +kernel
theorem dX3_sit_0 : decode cX3_sit 0 = .ok (.aload_n 0, 1) := by decide +kernel
theorem dX3_sit_1 : decode cX3_sit 1 = .ok (.iload_n 1, 1) := by decide +kernel
theorem dX3_sit_2 : decode cX3_sit 2 = .ok (.iload_n 2, 1) := by decide +kernel
theorem dX3_sit_3 : decode cX3_sit 3 = .ok (.invokevirtual 114, 3) := by decide +kernel
theorem dX3_sit_6 : decode cX3_sit 6 = .ok (.istore_n 3, 1) := by decide +kernel
theorem dX3_sit_7 : decode cX3_sit 7 = .ok (.iload_n 3, 1) := by decide +kernel
theorem dX3_sit_8 : decode cX3_sit 8 = .ok (.invokestatic 98, 3) := by decide +kernel
theorem dX3_sit_11 : decode cX3_sit 11 = .ok (.ifCond .ne 5, 3) := by decide +kernel
theorem dX3_sit_14 : decode cX3_sit 14 = .ok (.iload_n 3, 1) := by decide +kernel
theorem dX3_sit_15 : decode cX3_sit 15 = .ok (.ireturn, 1) := by decide +kernel
theorem dX3_sit_16 : decode cX3_sit 16 = .ok (.iload_n 3, 1) := by decide +kernel
theorem dX3_sit_17 : decode cX3_sit 17 = .ok (.iload_n 2, 1) := by decide +kernel
theorem dX3_sit_18 : decode cX3_sit 18 = .ok (.if_icmp .ne 26, 3) := by decide +kernel
theorem dX3_sit_21 : decode cX3_sit 21 = .ok (.aload_n 0, 1) := by decide +kernel
theorem dX3_sit_22 : decode cX3_sit 22 = .ok (.getfield 19, 3) := by decide +kernel
theorem dX3_sit_25 : decode cX3_sit 25 = .ok (.getfield 84, 3) := by decide +kernel
theorem dX3_sit_28 : decode cX3_sit 28 = .ok (.aload_n 0, 1) := by decide +kernel
theorem dX3_sit_29 : decode cX3_sit 29 = .ok (.getfield 19, 3) := by decide +kernel
theorem dX3_sit_32 : decode cX3_sit 32 = .ok (.getfield 95, 3) := by decide +kernel
theorem dX3_sit_35 : decode cX3_sit 35 = .ok (.iload_n 1, 1) := by decide +kernel
theorem dX3_sit_36 : decode cX3_sit 36 = .ok (.iaload, 1) := by decide +kernel
theorem dX3_sit_37 : decode cX3_sit 37 = .ok (.dup2, 1) := by decide +kernel
theorem dX3_sit_38 : decode cX3_sit 38 = .ok (.iaload, 1) := by decide +kernel
theorem dX3_sit_39 : decode cX3_sit 39 = .ok (.iconst 1, 1) := by decide +kernel
theorem dX3_sit_40 : decode cX3_sit 40 = .ok (.iadd, 1) := by decide +kernel
theorem dX3_sit_41 : decode cX3_sit 41 = .ok (.iastore, 1) := by decide +kernel
theorem dX3_sit_42 : decode cX3_sit 42 = .ok (.iconst (-1), 1) := by decide +kernel
theorem dX3_sit_43 : decode cX3_sit 43 = .ok (.ireturn, 1) := by decide +kernel
theorem dX3_sit_44 : decode cX3_sit 44 = .ok (.aload_n 0, 1) := by decide +kernel
theorem dX3_sit_45 : decode cX3_sit 45 = .ok (.getfield 19, 3) := by decide +kernel
theorem dX3_sit_48 : decode cX3_sit 48 = .ok (.dup, 1) := by decide +kernel
theorem dX3_sit_49 : decode cX3_sit 49 = .ok (.getfield 117, 3) := by decide +kernel
theorem dX3_sit_52 : decode cX3_sit 52 = .ok (.iconst 1, 1) := by decide +kernel
theorem dX3_sit_53 : decode cX3_sit 53 = .ok (.iadd, 1) := by decide +kernel
theorem dX3_sit_54 : decode cX3_sit 54 = .ok (.putfield 117, 3) := by decide +kernel
theorem dX3_sit_57 : decode cX3_sit 57 = .ok (.aload_n 0, 1) := by decide +kernel
theorem dX3_sit_58 : decode cX3_sit 58 = .ok (.getfield 19, 3) := by decide +kernel
theorem dX3_sit_61 : decode cX3_sit 61 = .ok (.iload_n 3, 1) := by decide +kernel
theorem dX3_sit_62 : decode cX3_sit 62 = .ok (.putfield 120, 3) := by decide +kernel
theorem dX3_sit_65 : decode cX3_sit 65 = .ok (.iload_n 3, 1) := by decide +kernel
theorem dX3_sit_66 : decode cX3_sit 66 = .ok (.ireturn, 1) := by decide +kernel
theorem dX3_where_0 : decode cX3_where 0 = .ok (.iload_n 1, 1) := by decide +kernel
theorem dX3_where_1 : decode cX3_where 1 = .ok (.invokestatic 98, 3) := by decide +kernel
theorem dX3_where_4 : decode cX3_where 4 = .ok (.ifCond .eq 10, 3) := by decide +kernel
theorem dX3_where_7 : decode cX3_where 7 = .ok (.iload_n 2, 1) := by decide +kernel
theorem dX3_where_8 : decode cX3_where 8 = .ok (.invokestatic 98, 3) := by decide +kernel
theorem dX3_where_11 : decode cX3_where 11 = .ok (.ifCond .ne 6, 3) := by decide +kernel
theorem dX3_where_14 : decode cX3_where 14 = .ok (.bipush (-102), 2) := by decide +kernel
theorem dX3_where_16 : decode cX3_where 16 = .ok (.ireturn, 1) := by decide +kernel
theorem dX3_where_17 : decode cX3_where 17 = .ok (.aload_n 0, 1) := by decide +kernel
theorem dX3_where_18 : decode cX3_where 18 = .ok (.invokevirtual 101, 3) := by decide +kernel
theorem dX3_where_21 : decode cX3_where 21 = .ok (.ifCond .ne 6, 3) := by decide +kernel
theorem dX3_where_24 : decode cX3_where 24 = .ok (.bipush (-103), 2) := by decide +kernel
theorem dX3_where_26 : decode cX3_where 26 = .ok (.ireturn, 1) := by decide +kernel
theorem dX3_where_27 : decode cX3_where 27 = .ok (.aload_n 0, 1) := by decide +kernel
theorem dX3_where_28 : decode cX3_where 28 = .ok (.getfield 29, 3) := by decide +kernel
theorem dX3_where_31 : decode cX3_where 31 = .ok (.aload_n 0, 1) := by decide +kernel
theorem dX3_where_32 : decode cX3_where 32 = .ok (.getfield 19, 3) := by decide +kernel
theorem dX3_where_35 : decode cX3_where 35 = .ok (.invokevirtual 107, 3) := by decide +kernel
theorem dX3_where_38 : decode cX3_where 38 = .ok (.iconst 0, 1) := by decide +kernel
theorem dX3_where_39 : decode cX3_where 39 = .ok (.istore_n 3, 1) := by decide +kernel
theorem dX3_where_40 : decode cX3_where 40 = .ok (.iconst 0, 1) := by decide +kernel
theorem dX3_where_41 : decode cX3_where 41 = .ok (.istore 4, 2) := by decide +kernel
theorem dX3_where_43 : decode cX3_where 43 = .ok (.iload 4, 2) := by decide +kernel
theorem dX3_where_45 : decode cX3_where 45 = .ok (.aload_n 0, 1) := by decide +kernel
theorem dX3_where_46 : decode cX3_where 46 = .ok (.getfield 19, 3) := by decide +kernel
theorem dX3_where_49 : decode cX3_where 49 = .ok (.getfield 67, 3) := by decide +kernel
theorem dX3_where_52 : decode cX3_where 52 = .ok (.if_icmp .ge 30, 3) := by decide +kernel
theorem dX3_where_55 : decode cX3_where 55 = .ok (.aload_n 0, 1) := by decide +kernel
theorem dX3_where_56 : decode cX3_where 56 = .ok (.getfield 29, 3) := by decide +kernel
theorem dX3_where_59 : decode cX3_where 59 = .ok (.iload 4, 2) := by decide +kernel
theorem dX3_where_61 : decode cX3_where 61 = .ok (.iload_n 1, 1) := by decide +kernel
theorem dX3_where_62 : decode cX3_where 62 = .ok (.invokevirtual 111, 3) := by decide +kernel
theorem dX3_where_65 : decode cX3_where 65 = .ok (.iload_n 2, 1) := by decide +kernel
theorem dX3_where_66 : decode cX3_where 66 = .ok (.if_icmp .ne 10, 3) := by decide +kernel
theorem dX3_where_69 : decode cX3_where 69 = .ok (.iload_n 3, 1) := by decide +kernel
theorem dX3_where_70 : decode cX3_where 70 = .ok (.iconst 1, 1) := by decide +kernel
theorem dX3_where_71 : decode cX3_where 71 = .ok (.iload 4, 2) := by decide +kernel
theorem dX3_where_73 : decode cX3_where 73 = .ok (.ishl, 1) := by decide +kernel
theorem dX3_where_74 : decode cX3_where 74 = .ok (.ior, 1) := by decide +kernel
theorem dX3_where_75 : decode cX3_where 75 = .ok (.istore_n 3, 1) := by decide +kernel
theorem dX3_where_76 : decode cX3_where 76 = .ok (.iinc 4 1, 3) := by decide +kernel
theorem dX3_where_79 : decode cX3_where 79 = .ok (.goto (-36), 3) := by decide +kernel
theorem dX3_where_82 : decode cX3_where 82 = .ok (.iload_n 3, 1) := by decide +kernel
theorem dX3_where_83 : decode cX3_where 83 = .ok (.ireturn, 1) := by decide +kernel
theorem dX3_can_0 : decode cX3_can 0 = .ok (.aload_n 0, 1) := by decide +kernel
theorem dX3_can_1 : decode cX3_can 1 = .ok (.invokevirtual 101, 3) := by decide +kernel
theorem dX3_can_4 : decode cX3_can 4 = .ok (.ifCond .ne 6, 3) := by decide +kernel
theorem dX3_can_7 : decode cX3_can 7 = .ok (.bipush (-103), 2) := by decide +kernel
theorem dX3_can_9 : decode cX3_can 9 = .ok (.ireturn, 1) := by decide +kernel
theorem dX3_can_10 : decode cX3_can 10 = .ok (.aload_n 0, 1) := by decide +kernel
theorem dX3_can_11 : decode cX3_can 11 = .ok (.getfield 29, 3) := by decide +kernel
theorem dX3_can_14 : decode cX3_can 14 = .ok (.aload_n 0, 1) := by decide +kernel
theorem dX3_can_15 : decode cX3_can 15 = .ok (.getfield 19, 3) := by decide +kernel
theorem dX3_can_18 : decode cX3_can 18 = .ok (.invokevirtual 107, 3) := by decide +kernel
theorem dX3_can_21 : decode cX3_can 21 = .ok (.iconst 0, 1) := by decide +kernel
theorem dX3_can_22 : decode cX3_can 22 = .ok (.istore_n 1, 1) := by decide +kernel
theorem dX3_can_23 : decode cX3_can 23 = .ok (.iconst 0, 1) := by decide +kernel
theorem dX3_can_24 : decode cX3_can 24 = .ok (.istore_n 2, 1) := by decide +kernel
theorem dX3_can_25 : decode cX3_can 25 = .ok (.iload_n 2, 1) := by decide +kernel
theorem dX3_can_26 : decode cX3_can 26 = .ok (.aload_n 0, 1) := by decide +kernel
theorem dX3_can_27 : decode cX3_can 27 = .ok (.getfield 19, 3) := by decide +kernel
theorem dX3_can_30 : decode cX3_can 30 = .ok (.getfield 67, 3) := by decide +kernel
theorem dX3_can_33 : decode cX3_can 33 = .ok (.if_icmp .ge 47, 3) := by decide +kernel
theorem dX3_can_36 : decode cX3_can 36 = .ok (.iconst 0, 1) := by decide +kernel
theorem dX3_can_37 : decode cX3_can 37 = .ok (.istore_n 3, 1) := by decide +kernel
theorem dX3_can_38 : decode cX3_can 38 = .ok (.iload_n 3, 1) := by decide +kernel
theorem dX3_can_39 : decode cX3_can 39 = .ok (.bipush 8, 2) := by decide +kernel
theorem dX3_can_41 : decode cX3_can 41 = .ok (.if_icmp .ge 33, 3) := by decide +kernel
theorem dX3_can_44 : decode cX3_can 44 = .ok (.aload_n 0, 1) := by decide +kernel
theorem dX3_can_45 : decode cX3_can 45 = .ok (.getfield 29, 3) := by decide +kernel
theorem dX3_can_48 : decode cX3_can 48 = .ok (.iload_n 2, 1) := by decide +kernel
theorem dX3_can_49 : decode cX3_can 49 = .ok (.iload_n 3, 1) := by decide +kernel
theorem dX3_can_50 : decode cX3_can 50 = .ok (.invokevirtual 111, 3) := by decide +kernel
theorem dX3_can_53 : decode cX3_can 53 = .ok (.istore 4, 2) := by decide +kernel
theorem dX3_can_55 : decode cX3_can 55 = .ok (.iload 4, 2) := by decide +kernel
theorem dX3_can_57 : decode cX3_can 57 = .ok (.iload_n 3, 1) := by decide +kernel
theorem dX3_can_58 : decode cX3_can 58 = .ok (.if_icmp .eq 10, 3) := by decide +kernel
theorem dX3_can_61 : decode cX3_can 61 = .ok (.iload_n 1, 1) := by decide +kernel
theorem dX3_can_62 : decode cX3_can 62 = .ok (.iconst 1, 1) := by decide +kernel
theorem dX3_can_63 : decode cX3_can 63 = .ok (.iload 4, 2) := by decide +kernel
theorem dX3_can_65 : decode cX3_can 65 = .ok (.ishl, 1) := by decide +kernel
theorem dX3_can_66 : decode cX3_can 66 = .ok (.ior, 1) := by decide +kernel
theorem dX3_can_67 : decode cX3_can 67 = .ok (.istore_n 1, 1) := by decide +kernel
theorem dX3_can_68 : decode cX3_can 68 = .ok (.iinc 3 1, 3) := by decide +kernel
theorem dX3_can_71 : decode cX3_can 71 = .ok (.goto (-33), 3) := by decide +kernel
theorem dX3_can_74 : decode cX3_can 74 = .ok (.iinc 2 1, 3) := by decide +kernel
theorem dX3_can_77 : decode cX3_can 77 = .ok (.goto (-52), 3) := by decide +kernel
theorem dX3_can_80 : decode cX3_can 80 = .ok (.iload_n 1, 1) := by decide +kernel
theorem dX3_can_81 : decode cX3_can 81 = .ok (.ireturn, 1) := by decide +kernel
theorem dX3_endless_0 : decode cX3_endless 0 = .ok (.aload_n 0, 1) := by decide +kernel
theorem dX3_endless_1 : decode cX3_endless 1 = .ok (.iload_n 1, 1) := by decide +kernel
theorem dX3_endless_2 : decode cX3_endless 2 = .ok (.invokevirtual 70, 3) := by decide +kernel
theorem dX3_endless_5 : decode cX3_endless 5 = .ok (.ifCond .ne 6, 3) := by decide +kernel
theorem dX3_endless_8 : decode cX3_endless 8 = .ok (.bipush (-101), 2) := by decide +kernel
theorem dX3_endless_10 : decode cX3_endless 10 = .ok (.ireturn, 1) := by decide +kernel
theorem dX3_endless_11 : decode cX3_endless 11 = .ok (.iload_n 2, 1) := by decide +kernel
theorem dX3_endless_12 : decode cX3_endless 12 = .ok (.invokestatic 98, 3) := by decide +kernel
theorem dX3_endless_15 : decode cX3_endless 15 = .ok (.ifCond .eq 12, 3) := by decide +kernel
theorem dX3_endless_18 : decode cX3_endless 18 = .ok (.iload_n 3, 1) := by decide +kernel
theorem dX3_endless_19 : decode cX3_endless 19 = .ok (.ifCond .lt 8, 3) := by decide +kernel
theorem dX3_endless_22 : decode cX3_endless 22 = .ok (.iload_n 3, 1) := by decide +kernel
theorem dX3_endless_23 : decode cX3_endless 23 = .ok (.iconst 2, 1) := by decide +kernel
theorem dX3_endless_24 : decode cX3_endless 24 = .ok (.if_icmp .le 6, 3) := by decide +kernel
theorem dX3_endless_27 : decode cX3_endless 27 = .ok (.bipush (-102), 2) := by decide +kernel
theorem dX3_endless_29 : decode cX3_endless 29 = .ok (.ireturn, 1) := by decide +kernel
theorem dX3_endless_30 : decode cX3_endless 30 = .ok (.aload_n 0, 1) := by decide +kernel
theorem dX3_endless_31 : decode cX3_endless 31 = .ok (.iload_n 1, 1) := by decide +kernel
theorem dX3_endless_32 : decode cX3_endless 32 = .ok (.iload_n 2, 1) := by decide +kernel
theorem dX3_endless_33 : decode cX3_endless 33 = .ok (.iload_n 3, 1) := by decide +kernel
theorem dX3_endless_34 : decode cX3_endless 34 = .ok (.invokevirtual 123, 3) := by decide +kernel
theorem dX3_endless_37 : decode cX3_endless 37 = .ok (.ireturn, 1) := by decide +kernel
theorem dX3_seating_0 : decode cX3_seating 0 = .ok (.iload_n 1, 1) := by decide +kernel
theorem dX3_seating_1 : decode cX3_seating 1 = .ok (.invokestatic 98, 3) := by decide +kernel
theorem dX3_seating_4 : decode cX3_seating 4 = .ok (.ifCond .eq 19, 3) := by decide +kernel
theorem dX3_seating_7 : decode cX3_seating 7 = .ok (.iload_n 2, 1) := by decide +kernel
theorem dX3_seating_8 : decode cX3_seating 8 = .ok (.invokestatic 98, 3) := by decide +kernel
theorem dX3_seating_11 : decode cX3_seating 11 = .ok (.ifCond .eq 12, 3) := by decide +kernel
theorem dX3_seating_14 : decode cX3_seating 14 = .ok (.iload_n 3, 1) := by decide +kernel
theorem dX3_seating_15 : decode cX3_seating 15 = .ok (.ifCond .lt 8, 3) := by decide +kernel
theorem dX3_seating_18 : decode cX3_seating 18 = .ok (.iload_n 3, 1) := by decide +kernel
theorem dX3_seating_19 : decode cX3_seating 19 = .ok (.iconst 1, 1) := by decide +kernel
theorem dX3_seating_20 : decode cX3_seating 20 = .ok (.if_icmp .le 6, 3) := by decide +kernel
theorem dX3_seating_23 : decode cX3_seating 23 = .ok (.bipush (-102), 2) := by decide +kernel
theorem dX3_seating_25 : decode cX3_seating 25 = .ok (.ireturn, 1) := by decide +kernel
theorem dX3_seating_26 : decode cX3_seating 26 = .ok (.aload_n 0, 1) := by decide +kernel
theorem dX3_seating_27 : decode cX3_seating 27 = .ok (.invokevirtual 101, 3) := by decide +kernel
theorem dX3_seating_30 : decode cX3_seating 30 = .ok (.ifCond .eq 12, 3) := by decide +kernel
theorem dX3_seating_33 : decode cX3_seating 33 = .ok (.aload_n 0, 1) := by decide +kernel
theorem dX3_seating_34 : decode cX3_seating 34 = .ok (.getfield 127, 3) := by decide +kernel
theorem dX3_seating_37 : decode cX3_seating 37 = .ok (.bipush 20, 2) := by decide +kernel
theorem dX3_seating_39 : decode cX3_seating 39 = .ok (.if_icmp .lt 6, 3) := by decide +kernel
theorem dX3_seating_42 : decode cX3_seating 42 = .ok (.bipush (-103), 2) := by decide +kernel
theorem dX3_seating_44 : decode cX3_seating 44 = .ok (.ireturn, 1) := by decide +kernel
theorem dX3_seating_45 : decode cX3_seating 45 = .ok (.aload_n 0, 1) := by decide +kernel
theorem dX3_seating_46 : decode cX3_seating 46 = .ok (.dup, 1) := by decide +kernel
theorem dX3_seating_47 : decode cX3_seating 47 = .ok (.getfield 127, 3) := by decide +kernel
theorem dX3_seating_50 : decode cX3_seating 50 = .ok (.iconst 1, 1) := by decide +kernel
theorem dX3_seating_51 : decode cX3_seating 51 = .ok (.iadd, 1) := by decide +kernel
theorem dX3_seating_52 : decode cX3_seating 52 = .ok (.putfield 127, 3) := by decide +kernel
theorem dX3_seating_55 : decode cX3_seating 55 = .ok (.aload_n 0, 1) := by decide +kernel
theorem dX3_seating_56 : decode cX3_seating 56 = .ok (.iload_n 1, 1) := by decide +kernel
theorem dX3_seating_57 : decode cX3_seating 57 = .ok (.iload_n 2, 1) := by decide +kernel
theorem dX3_seating_58 : decode cX3_seating 58 = .ok (.iload_n 3, 1) := by decide +kernel
theorem dX3_seating_59 : decode cX3_seating 59 = .ok (.invokevirtual 130, 3) := by decide +kernel
theorem dX3_seating_62 : decode cX3_seating 62 = .ok (.ireturn, 1) := by decide +kernel
theorem dX3_nestlings_0 : decode cX3_nestlings 0 = .ok (.aload_n 0, 1) := by decide +kernel
theorem dX3_nestlings_1 : decode cX3_nestlings 1 = .ok (.iload_n 2, 1) := by decide +kernel
theorem dX3_nestlings_2 : decode cX3_nestlings 2 = .ok (.invokevirtual 70, 3) := by decide +kernel
theorem dX3_nestlings_5 : decode cX3_nestlings 5 = .ok (.ifCond .ne 6, 3) := by decide +kernel
theorem dX3_nestlings_8 : decode cX3_nestlings 8 = .ok (.bipush (-101), 2) := by decide +kernel
theorem dX3_nestlings_10 : decode cX3_nestlings 10 = .ok (.ireturn, 1) := by decide +kernel
theorem dX3_nestlings_11 : decode cX3_nestlings 11 = .ok (.iload_n 1, 1) := by decide +kernel
theorem dX3_nestlings_12 : decode cX3_nestlings 12 = .ok (.ifCond .lt 31, 3) := by decide +kernel
theorem dX3_nestlings_15 : decode cX3_nestlings 15 = .ok (.iload_n 1, 1) := by decide +kernel
theorem dX3_nestlings_16 : decode cX3_nestlings 16 = .ok (.iconst 1, 1) := by decide +kernel
theorem dX3_nestlings_17 : decode cX3_nestlings 17 = .ok (.aload_n 0, 1) := by decide +kernel
theorem dX3_nestlings_18 : decode cX3_nestlings 18 = .ok (.getfield 19, 3) := by decide +kernel
theorem dX3_nestlings_21 : decode cX3_nestlings 21 = .ok (.getfield 67, 3) := by decide +kernel
theorem dX3_nestlings_24 : decode cX3_nestlings 24 = .ok (.ishl, 1) := by decide +kernel
theorem dX3_nestlings_25 : decode cX3_nestlings 25 = .ok (.if_icmp .ge 18, 3) := by decide +kernel
theorem dX3_nestlings_28 : decode cX3_nestlings 28 = .ok (.iload_n 3, 1) := by decide +kernel
theorem dX3_nestlings_29 : decode cX3_nestlings 29 = .ok (.invokestatic 98, 3) := by decide +kernel
theorem dX3_nestlings_32 : decode cX3_nestlings 32 = .ok (.ifCond .eq 11, 3) := by decide +kernel
theorem dX3_nestlings_35 : decode cX3_nestlings 35 = .ok (.iload 4, 2) := by decide +kernel
theorem dX3_nestlings_37 : decode cX3_nestlings 37 = .ok (.invokestatic 98, 3) := by decide +kernel
theorem dX3_nestlings_40 : decode cX3_nestlings 40 = .ok (.ifCond .ne 6, 3) := by decide +kernel
theorem dX3_nestlings_43 : decode cX3_nestlings 43 = .ok (.bipush (-102), 2) := by decide +kernel
theorem dX3_nestlings_45 : decode cX3_nestlings 45 = .ok (.ireturn, 1) := by decide +kernel
theorem dX3_nestlings_46 : decode cX3_nestlings 46 = .ok (.iload 5, 2) := by decide +kernel
theorem dX3_nestlings_48 : decode cX3_nestlings 48 = .ok (.ifCond .lt 9, 3) := by decide +kernel
theorem dX3_nestlings_51 : decode cX3_nestlings 51 = .ok (.iload 5, 2) := by decide +kernel
theorem dX3_nestlings_53 : decode cX3_nestlings 53 = .ok (.iconst 1, 1) := by decide +kernel
theorem dX3_nestlings_54 : decode cX3_nestlings 54 = .ok (.if_icmp .le 6, 3) := by decide +kernel
theorem dX3_nestlings_57 : decode cX3_nestlings 57 = .ok (.bipush (-102), 2) := by decide +kernel
theorem dX3_nestlings_59 : decode cX3_nestlings 59 = .ok (.ireturn, 1) := by decide +kernel
theorem dX3_nestlings_60 : decode cX3_nestlings 60 = .ok (.aload_n 0, 1) := by decide +kernel
theorem dX3_nestlings_61 : decode cX3_nestlings 61 = .ok (.iload_n 1, 1) := by decide +kernel
theorem dX3_nestlings_62 : decode cX3_nestlings 62 = .ok (.iload_n 2, 1) := by decide +kernel
theorem dX3_nestlings_63 : decode cX3_nestlings 63 = .ok (.iload_n 3, 1) := by decide +kernel
theorem dX3_nestlings_64 : decode cX3_nestlings 64 = .ok (.iload 4, 2) := by decide +kernel
theorem dX3_nestlings_66 : decode cX3_nestlings 66 = .ok (.invokevirtual 133, 3) := by decide +kernel
theorem dX3_nestlings_69 : decode cX3_nestlings 69 = .ok (.istore 6, 2) := by decide +kernel
theorem dX3_nestlings_71 : decode cX3_nestlings 71 = .ok (.iload_n 1, 1) := by decide +kernel
theorem dX3_nestlings_72 : decode cX3_nestlings 72 = .ok (.invokestatic 137, 3) := by decide +kernel
theorem dX3_nestlings_75 : decode cX3_nestlings 75 = .ok (.istore 7, 2) := by decide +kernel
theorem dX3_nestlings_77 : decode cX3_nestlings 77 = .ok (.iload 7, 2) := by decide +kernel
theorem dX3_nestlings_79 : decode cX3_nestlings 79 = .ok (.ifCond .le 22, 3) := by decide +kernel
theorem dX3_nestlings_82 : decode cX3_nestlings 82 = .ok (.iload 6, 2) := by decide +kernel
theorem dX3_nestlings_84 : decode cX3_nestlings 84 = .ok (.iconst 2, 1) := by decide +kernel
theorem dX3_nestlings_85 : decode cX3_nestlings 85 = .ok (.irem, 1) := by decide +kernel
theorem dX3_nestlings_86 : decode cX3_nestlings 86 = .ok (.ifCond .ne 15, 3) := by decide +kernel
theorem dX3_nestlings_89 : decode cX3_nestlings 89 = .ok (.iload 6, 2) := by decide +kernel
theorem dX3_nestlings_91 : decode cX3_nestlings 91 = .ok (.iconst 2, 1) := by decide +kernel
theorem dX3_nestlings_92 : decode cX3_nestlings 92 = .ok (.idiv, 1) := by decide +kernel
theorem dX3_nestlings_93 : decode cX3_nestlings 93 = .ok (.istore 6, 2) := by decide +kernel
theorem dX3_nestlings_95 : decode cX3_nestlings 95 = .ok (.iinc 7 (-1), 3) := by decide +kernel
theorem dX3_nestlings_98 : decode cX3_nestlings 98 = .ok (.goto (-21), 3) := by decide +kernel
theorem dX3_nestlings_101 : decode cX3_nestlings 101 = .ok (.iload 5, 2) := by decide +kernel
theorem dX3_nestlings_103 : decode cX3_nestlings 103 = .ok (.ifCond .ne 8, 3) := by decide +kernel
theorem dX3_nestlings_106 : decode cX3_nestlings 106 = .ok (.iload 6, 2) := by decide +kernel
theorem dX3_nestlings_108 : decode cX3_nestlings 108 = .ok (.goto 7, 3) := by decide +kernel
theorem dX3_nestlings_111 : decode cX3_nestlings 111 = .ok (.iconst 1, 1) := by decide +kernel
theorem dX3_nestlings_112 : decode cX3_nestlings 112 = .ok (.iload 7, 2) := by decide +kernel
theorem dX3_nestlings_114 : decode cX3_nestlings 114 = .ok (.ishl, 1) := by decide +kernel
theorem dX3_nestlings_115 : decode cX3_nestlings 115 = .ok (.ireturn, 1) := by decide +kernel
theorem dX3_observe_0 : decode cX3_observe 0 = .ok (.aload_n 0, 1) := by decide +kernel
theorem dX3_observe_1 : decode cX3_observe 1 = .ok (.iload_n 1, 1) := by decide +kernel
theorem dX3_observe_2 : decode cX3_observe 2 = .ok (.invokevirtual 70, 3) := by decide +kernel
theorem dX3_observe_5 : decode cX3_observe 5 = .ok (.ifCond .ne 6, 3) := by decide +kernel
theorem dX3_observe_8 : decode cX3_observe 8 = .ok (.bipush (-101), 2) := by decide +kernel
theorem dX3_observe_10 : decode cX3_observe 10 = .ok (.ireturn, 1) := by decide +kernel
theorem dX3_observe_11 : decode cX3_observe 11 = .ok (.iload_n 2, 1) := by decide +kernel
theorem dX3_observe_12 : decode cX3_observe 12 = .ok (.invokestatic 98, 3) := by decide +kernel
theorem dX3_observe_15 : decode cX3_observe 15 = .ok (.ifCond .eq 10, 3) := by decide +kernel
theorem dX3_observe_18 : decode cX3_observe 18 = .ok (.iload_n 3, 1) := by decide +kernel
theorem dX3_observe_19 : decode cX3_observe 19 = .ok (.invokestatic 98, 3) := by decide +kernel
theorem dX3_observe_22 : decode cX3_observe 22 = .ok (.ifCond .ne 6, 3) := by decide +kernel
theorem dX3_observe_25 : decode cX3_observe 25 = .ok (.bipush (-102), 2) := by decide +kernel
theorem dX3_observe_27 : decode cX3_observe 27 = .ok (.ireturn, 1) := by decide +kernel
theorem dX3_observe_28 : decode cX3_observe 28 = .ok (.aload_n 0, 1) := by decide +kernel
theorem dX3_observe_29 : decode cX3_observe 29 = .ok (.getfield 19, 3) := by decide +kernel
theorem dX3_observe_32 : decode cX3_observe 32 = .ok (.iload_n 1, 1) := by decide +kernel
theorem dX3_observe_33 : decode cX3_observe 33 = .ok (.iload_n 2, 1) := by decide +kernel
theorem dX3_observe_34 : decode cX3_observe 34 = .ok (.iload_n 3, 1) := by decide +kernel
theorem dX3_observe_35 : decode cX3_observe 35 = .ok (.invokevirtual 142, 3) := by decide +kernel
theorem dX3_observe_38 : decode cX3_observe 38 = .ok (.ireturn, 1) := by decide +kernel
theorem dX3_forget_0 : decode cX3_forget 0 = .ok (.aload_n 0, 1) := by decide +kernel
theorem dX3_forget_1 : decode cX3_forget 1 = .ok (.getfield 19, 3) := by decide +kernel
theorem dX3_forget_4 : decode cX3_forget 4 = .ok (.getfield 145, 3) := by decide +kernel
theorem dX3_forget_7 : decode cX3_forget 7 = .ok (.istore_n 1, 1) := by decide +kernel
theorem dX3_forget_8 : decode cX3_forget 8 = .ok (.aload_n 0, 1) := by decide +kernel
theorem dX3_forget_9 : decode cX3_forget 9 = .ok (.getfield 19, 3) := by decide +kernel
theorem dX3_forget_12 : decode cX3_forget 12 = .ok (.iconst 0, 1) := by decide +kernel
theorem dX3_forget_13 : decode cX3_forget 13 = .ok (.putfield 145, 3) := by decide +kernel
theorem dX3_forget_16 : decode cX3_forget 16 = .ok (.iload_n 1, 1) := by decide +kernel
theorem dX3_forget_17 : decode cX3_forget 17 = .ok (.ireturn, 1) := by decide +kernel
theorem dX3_guess_0 : decode cX3_guess 0 = .ok (.aload_n 0, 1) := by decide +kernel
theorem dX3_guess_1 : decode cX3_guess 1 = .ok (.iload_n 1, 1) := by decide +kernel
theorem dX3_guess_2 : decode cX3_guess 2 = .ok (.invokevirtual 70, 3) := by decide +kernel
theorem dX3_guess_5 : decode cX3_guess 5 = .ok (.ifCond .ne 6, 3) := by decide +kernel
theorem dX3_guess_8 : decode cX3_guess 8 = .ok (.bipush (-101), 2) := by decide +kernel
theorem dX3_guess_10 : decode cX3_guess 10 = .ok (.ireturn, 1) := by decide +kernel
theorem dX3_guess_11 : decode cX3_guess 11 = .ok (.iload_n 2, 1) := by decide +kernel
theorem dX3_guess_12 : decode cX3_guess 12 = .ok (.ifCond .lt 8, 3) := by decide +kernel
theorem dX3_guess_15 : decode cX3_guess 15 = .ok (.iload_n 2, 1) := by decide +kernel
theorem dX3_guess_16 : decode cX3_guess 16 = .ok (.iconst 1, 1) := by decide +kernel
theorem dX3_guess_17 : decode cX3_guess 17 = .ok (.if_icmp .le 6, 3) := by decide +kernel
theorem dX3_guess_20 : decode cX3_guess 20 = .ok (.bipush (-102), 2) := by decide +kernel
theorem dX3_guess_22 : decode cX3_guess 22 = .ok (.ireturn, 1) := by decide +kernel
theorem dX3_guess_23 : decode cX3_guess 23 = .ok (.aload_n 0, 1) := by decide +kernel
theorem dX3_guess_24 : decode cX3_guess 24 = .ok (.iload_n 1, 1) := by decide +kernel
theorem dX3_guess_25 : decode cX3_guess 25 = .ok (.invokevirtual 148, 3) := by decide +kernel
theorem dX3_guess_28 : decode cX3_guess 28 = .ok (.lstore_n 3, 1) := by decide +kernel
theorem dX3_guess_29 : decode cX3_guess 29 = .ok (.iload_n 2, 1) := by decide +kernel
theorem dX3_guess_30 : decode cX3_guess 30 = .ok (.ifCond .ne 10, 3) := by decide +kernel
theorem dX3_guess_33 : decode cX3_guess 33 = .ok (.lload_n 3, 1) := by decide +kernel
theorem dX3_guess_34 : decode cX3_guess 34 = .ok (.invokestatic 152, 3) := by decide +kernel
theorem dX3_guess_37 : decode cX3_guess 37 = .ok (.goto 7, 3) := by decide +kernel
theorem dX3_guess_40 : decode cX3_guess 40 = .ok (.lload_n 3, 1) := by decide +kernel
theorem dX3_guess_41 : decode cX3_guess 41 = .ok (.invokestatic 157, 3) := by decide +kernel
theorem dX3_guess_44 : decode cX3_guess 44 = .ok (.ireturn, 1) := by decide +kernel
theorem dX3_caw_0 : decode cX3_caw 0 = .ok (.aload_n 0, 1) := by decide +kernel
theorem dX3_caw_1 : decode cX3_caw 1 = .ok (.iload_n 1, 1) := by decide +kernel
theorem dX3_caw_2 : decode cX3_caw 2 = .ok (.invokevirtual 70, 3) := by decide +kernel
theorem dX3_caw_5 : decode cX3_caw 5 = .ok (.ifCond .eq 16, 3) := by decide +kernel
theorem dX3_caw_8 : decode cX3_caw 8 = .ok (.aload_n 0, 1) := by decide +kernel
theorem dX3_caw_9 : decode cX3_caw 9 = .ok (.iload_n 1, 1) := by decide +kernel
theorem dX3_caw_10 : decode cX3_caw 10 = .ok (.aload_n 0, 1) := by decide +kernel
theorem dX3_caw_11 : decode cX3_caw 11 = .ok (.iload_n 1, 1) := by decide +kernel
theorem dX3_caw_12 : decode cX3_caw 12 = .ok (.invokevirtual 148, 3) := by decide +kernel
theorem dX3_caw_15 : decode cX3_caw 15 = .ok (.invokevirtual 160, 3) := by decide +kernel
theorem dX3_caw_18 : decode cX3_caw 18 = .ok (.goto 5, 3) := by decide +kernel
theorem dX3_caw_21 : decode cX3_caw 21 = .ok (.bipush (-101), 2) := by decide +kernel
theorem dX3_caw_23 : decode cX3_caw 23 = .ok (.ireturn, 1) := by decide +kernel
theorem dX3_years_0 : decode cX3_years 0 = .ok (.iload_n 1, 1) := by decide +kernel
theorem dX3_years_1 : decode cX3_years 1 = .ok (.iconst 1, 1) := by decide +kernel
theorem dX3_years_2 : decode cX3_years 2 = .ok (.if_icmp .lt 22, 3) := by decide +kernel
theorem dX3_years_5 : decode cX3_years 5 = .ok (.iload_n 1, 1) := by decide +kernel
theorem dX3_years_6 : decode cX3_years 6 = .ok (.bipush 60, 2) := by decide +kernel
theorem dX3_years_8 : decode cX3_years 8 = .ok (.if_icmp .gt 16, 3) := by decide +kernel
theorem dX3_years_11 : decode cX3_years 11 = .ok (.iload_n 2, 1) := by decide +kernel
theorem dX3_years_12 : decode cX3_years 12 = .ok (.ifCond .lt 12, 3) := by decide +kernel
theorem dX3_years_15 : decode cX3_years 15 = .ok (.iload_n 3, 1) := by decide +kernel
theorem dX3_years_16 : decode cX3_years 16 = .ok (.ifCond .lt 8, 3) := by decide +kernel
theorem dX3_years_19 : decode cX3_years 19 = .ok (.iload_n 3, 1) := by decide +kernel
theorem dX3_years_20 : decode cX3_years 20 = .ok (.iconst 2, 1) := by decide +kernel
theorem dX3_years_21 : decode cX3_years 21 = .ok (.if_icmp .le 6, 3) := by decide +kernel
theorem dX3_years_24 : decode cX3_years 24 = .ok (.bipush (-102), 2) := by decide +kernel
theorem dX3_years_26 : decode cX3_years 26 = .ok (.ireturn, 1) := by decide +kernel
theorem dX3_years_27 : decode cX3_years 27 = .ok (.aload_n 0, 1) := by decide +kernel
theorem dX3_years_28 : decode cX3_years 28 = .ok (.invokevirtual 101, 3) := by decide +kernel
theorem dX3_years_31 : decode cX3_years 31 = .ok (.ifCond .eq 13, 3) := by decide +kernel
theorem dX3_years_34 : decode cX3_years 34 = .ok (.aload_n 0, 1) := by decide +kernel
theorem dX3_years_35 : decode cX3_years 35 = .ok (.iload_n 1, 1) := by decide +kernel
theorem dX3_years_36 : decode cX3_years 36 = .ok (.iload_n 2, 1) := by decide +kernel
theorem dX3_years_37 : decode cX3_years 37 = .ok (.iload_n 3, 1) := by decide +kernel
theorem dX3_years_38 : decode cX3_years 38 = .ok (.invokevirtual 164, 3) := by decide +kernel
theorem dX3_years_41 : decode cX3_years 41 = .ok (.goto 5, 3) := by decide +kernel
theorem dX3_years_44 : decode cX3_years 44 = .ok (.bipush (-103), 2) := by decide +kernel
theorem dX3_years_46 : decode cX3_years 46 = .ok (.ireturn, 1) := by decide +kernel
theorem dX3_image_0 : decode cX3_image 0 = .ok (.aload_n 0, 1) := by decide +kernel
theorem dX3_image_1 : decode cX3_image 1 = .ok (.invokevirtual 101, 3) := by decide +kernel
theorem dX3_image_4 : decode cX3_image 4 = .ok (.ifCond .ne 6, 3) := by decide +kernel
theorem dX3_image_7 : decode cX3_image 7 = .ok (.bipush (-103), 2) := by decide +kernel
theorem dX3_image_9 : decode cX3_image 9 = .ok (.ireturn, 1) := by decide +kernel
theorem dX3_image_10 : decode cX3_image 10 = .ok (.aload_n 0, 1) := by decide +kernel
theorem dX3_image_11 : decode cX3_image 11 = .ok (.getfield 23, 3) := by decide +kernel
theorem dX3_image_14 : decode cX3_image 14 = .ok (.aload_n 0, 1) := by decide +kernel
theorem dX3_image_15 : decode cX3_image 15 = .ok (.getfield 19, 3) := by decide +kernel
theorem dX3_image_18 : decode cX3_image 18 = .ok (.invokevirtual 167, 3) := by decide +kernel
theorem dX3_image_21 : decode cX3_image 21 = .ok (.aload_n 0, 1) := by decide +kernel
theorem dX3_image_22 : decode cX3_image 22 = .ok (.iconst 1, 1) := by decide +kernel
theorem dX3_image_23 : decode cX3_image 23 = .ok (.putfield 59, 3) := by decide +kernel
theorem dX3_image_26 : decode cX3_image 26 = .ok (.aload_n 0, 1) := by decide +kernel
theorem dX3_image_27 : decode cX3_image 27 = .ok (.getfield 19, 3) := by decide +kernel
theorem dX3_image_30 : decode cX3_image 30 = .ok (.getfield 117, 3) := by decide +kernel
theorem dX3_image_33 : decode cX3_image 33 = .ok (.ireturn, 1) := by decide +kernel
theorem dX3_restore_0 : decode cX3_restore 0 = .ok (.aload_n 0, 1) := by decide +kernel
theorem dX3_restore_1 : decode cX3_restore 1 = .ok (.getfield 59, 3) := by decide +kernel
theorem dX3_restore_4 : decode cX3_restore 4 = .ok (.ifCond .ne 6, 3) := by decide +kernel
theorem dX3_restore_7 : decode cX3_restore 7 = .ok (.bipush (-103), 2) := by decide +kernel
theorem dX3_restore_9 : decode cX3_restore 9 = .ok (.ireturn, 1) := by decide +kernel
theorem dX3_restore_10 : decode cX3_restore 10 = .ok (.aload_n 0, 1) := by decide +kernel
theorem dX3_restore_11 : decode cX3_restore 11 = .ok (.getfield 19, 3) := by decide +kernel
theorem dX3_restore_14 : decode cX3_restore 14 = .ok (.aload_n 0, 1) := by decide +kernel
theorem dX3_restore_15 : decode cX3_restore 15 = .ok (.getfield 23, 3) := by decide +kernel
theorem dX3_restore_18 : decode cX3_restore 18 = .ok (.invokevirtual 167, 3) := by decide +kernel
theorem dX3_restore_21 : decode cX3_restore 21 = .ok (.aload_n 0, 1) := by decide +kernel
theorem dX3_restore_22 : decode cX3_restore 22 = .ok (.getfield 19, 3) := by decide +kernel
theorem dX3_restore_25 : decode cX3_restore 25 = .ok (.getfield 117, 3) := by decide +kernel
theorem dX3_restore_28 : decode cX3_restore 28 = .ok (.ireturn, 1) := by decide +kernel
theorem dX3_count_0 : decode cX3_count 0 = .ok (.iload_n 1, 1) := by decide +kernel
theorem dX3_count_1 : decode cX3_count 1 = .ok (.tableswitch 117 0 8 #[51, 59, 67, 75, 83, 91, 99, 107, 112], 51) := by decide +kernel
theorem dX3_count_52 : decode cX3_count 52 = .ok (.aload_n 0, 1) := by decide +kernel
theorem dX3_count_53 : decode cX3_count 53 = .ok (.getfield 19, 3) := by decide +kernel
theorem dX3_count_56 : decode cX3_count 56 = .ok (.getfield 67, 3) := by decide +kernel
theorem dX3_count_59 : decode cX3_count 59 = .ok (.ireturn, 1) := by decide +kernel
theorem dX3_count_60 : decode cX3_count 60 = .ok (.aload_n 0, 1) := by decide +kernel
theorem dX3_count_61 : decode cX3_count 61 = .ok (.getfield 19, 3) := by decide +kernel
theorem dX3_count_64 : decode cX3_count 64 = .ok (.getfield 104, 3) := by decide +kernel
theorem dX3_count_67 : decode cX3_count 67 = .ok (.ireturn, 1) := by decide +kernel
theorem dX3_count_68 : decode cX3_count 68 = .ok (.aload_n 0, 1) := by decide +kernel
theorem dX3_count_69 : decode cX3_count 69 = .ok (.getfield 19, 3) := by decide +kernel
theorem dX3_count_72 : decode cX3_count 72 = .ok (.getfield 117, 3) := by decide +kernel
theorem dX3_count_75 : decode cX3_count 75 = .ok (.ireturn, 1) := by decide +kernel
theorem dX3_count_76 : decode cX3_count 76 = .ok (.aload_n 0, 1) := by decide +kernel
theorem dX3_count_77 : decode cX3_count 77 = .ok (.getfield 19, 3) := by decide +kernel
theorem dX3_count_80 : decode cX3_count 80 = .ok (.getfield 120, 3) := by decide +kernel
theorem dX3_count_83 : decode cX3_count 83 = .ok (.ireturn, 1) := by decide +kernel
theorem dX3_count_84 : decode cX3_count 84 = .ok (.aload_n 0, 1) := by decide +kernel
theorem dX3_count_85 : decode cX3_count 85 = .ok (.getfield 19, 3) := by decide +kernel
theorem dX3_count_88 : decode cX3_count 88 = .ok (.invokevirtual 170, 3) := by decide +kernel
theorem dX3_count_91 : decode cX3_count 91 = .ok (.ireturn, 1) := by decide +kernel
theorem dX3_count_92 : decode cX3_count 92 = .ok (.aload_n 0, 1) := by decide +kernel
theorem dX3_count_93 : decode cX3_count 93 = .ok (.getfield 19, 3) := by decide +kernel
theorem dX3_count_96 : decode cX3_count 96 = .ok (.getfield 145, 3) := by decide +kernel
theorem dX3_count_99 : decode cX3_count 99 = .ok (.ireturn, 1) := by decide +kernel
theorem dX3_count_100 : decode cX3_count 100 = .ok (.aload_n 0, 1) := by decide +kernel
theorem dX3_count_101 : decode cX3_count 101 = .ok (.getfield 10, 3) := by decide +kernel
theorem dX3_count_104 : decode cX3_count 104 = .ok (.getfield 173, 3) := by decide +kernel
theorem dX3_count_107 : decode cX3_count 107 = .ok (.ireturn, 1) := by decide +kernel
theorem dX3_count_108 : decode cX3_count 108 = .ok (.aload_n 0, 1) := by decide +kernel
theorem dX3_count_109 : decode cX3_count 109 = .ok (.getfield 63, 3) := by decide +kernel
theorem dX3_count_112 : decode cX3_count 112 = .ok (.ireturn, 1) := by decide +kernel
theorem dX3_count_113 : decode cX3_count 113 = .ok (.aload_n 0, 1) := by decide +kernel
theorem dX3_count_114 : decode cX3_count 114 = .ok (.getfield 127, 3) := by decide +kernel
theorem dX3_count_117 : decode cX3_count 117 = .ok (.ireturn, 1) := by decide +kernel
theorem dX3_count_118 : decode cX3_count 118 = .ok (.bipush (-102), 2) := by decide +kernel
theorem dX3_count_120 : decode cX3_count 120 = .ok (.ireturn, 1) := by decide +kernel
theorem dX3_digest_0 : decode cX3_digest 0 = .ok (.ldc2_w 176, 3) := by decide +kernel
theorem dX3_digest_3 : decode cX3_digest 3 = .ok (.lstore_n 1, 1) := by decide +kernel
theorem dX3_digest_4 : decode cX3_digest 4 = .ok (.iconst 0, 1) := by decide +kernel
theorem dX3_digest_5 : decode cX3_digest 5 = .ok (.istore_n 3, 1) := by decide +kernel
theorem dX3_digest_6 : decode cX3_digest 6 = .ok (.iload_n 3, 1) := by decide +kernel
theorem dX3_digest_7 : decode cX3_digest 7 = .ok (.aload_n 0, 1) := by decide +kernel
theorem dX3_digest_8 : decode cX3_digest 8 = .ok (.getfield 19, 3) := by decide +kernel
theorem dX3_digest_11 : decode cX3_digest 11 = .ok (.getfield 67, 3) := by decide +kernel
theorem dX3_digest_14 : decode cX3_digest 14 = .ok (.if_icmp .ge 16, 3) := by decide +kernel
theorem dX3_digest_17 : decode cX3_digest 17 = .ok (.aload_n 0, 1) := by decide +kernel
theorem dX3_digest_18 : decode cX3_digest 18 = .ok (.lload_n 1, 1) := by decide +kernel
theorem dX3_digest_19 : decode cX3_digest 19 = .ok (.iload_n 3, 1) := by decide +kernel
theorem dX3_digest_20 : decode cX3_digest 20 = .ok (.invokevirtual 178, 3) := by decide +kernel
theorem dX3_digest_23 : decode cX3_digest 23 = .ok (.lstore_n 1, 1) := by decide +kernel
theorem dX3_digest_24 : decode cX3_digest 24 = .ok (.iinc 3 1, 3) := by decide +kernel
theorem dX3_digest_27 : decode cX3_digest 27 = .ok (.goto (-21), 3) := by decide +kernel
theorem dX3_digest_30 : decode cX3_digest 30 = .ok (.iconst 0, 1) := by decide +kernel
theorem dX3_digest_31 : decode cX3_digest 31 = .ok (.istore_n 3, 1) := by decide +kernel
theorem dX3_digest_32 : decode cX3_digest 32 = .ok (.iload_n 3, 1) := by decide +kernel
theorem dX3_digest_33 : decode cX3_digest 33 = .ok (.aload_n 0, 1) := by decide +kernel
theorem dX3_digest_34 : decode cX3_digest 34 = .ok (.getfield 19, 3) := by decide +kernel
theorem dX3_digest_37 : decode cX3_digest 37 = .ok (.getfield 67, 3) := by decide +kernel
theorem dX3_digest_40 : decode cX3_digest 40 = .ok (.if_icmp .ge 16, 3) := by decide +kernel
theorem dX3_digest_43 : decode cX3_digest 43 = .ok (.aload_n 0, 1) := by decide +kernel
theorem dX3_digest_44 : decode cX3_digest 44 = .ok (.lload_n 1, 1) := by decide +kernel
theorem dX3_digest_45 : decode cX3_digest 45 = .ok (.iload_n 3, 1) := by decide +kernel
theorem dX3_digest_46 : decode cX3_digest 46 = .ok (.invokevirtual 182, 3) := by decide +kernel
theorem dX3_digest_49 : decode cX3_digest 49 = .ok (.lstore_n 1, 1) := by decide +kernel
theorem dX3_digest_50 : decode cX3_digest 50 = .ok (.iinc 3 1, 3) := by decide +kernel
theorem dX3_digest_53 : decode cX3_digest 53 = .ok (.goto (-21), 3) := by decide +kernel
theorem dX3_digest_56 : decode cX3_digest 56 = .ok (.aload_n 0, 1) := by decide +kernel
theorem dX3_digest_57 : decode cX3_digest 57 = .ok (.invokevirtual 101, 3) := by decide +kernel
theorem dX3_digest_60 : decode cX3_digest 60 = .ok (.ifCond .eq 13, 3) := by decide +kernel
theorem dX3_digest_63 : decode cX3_digest 63 = .ok (.lload_n 1, 1) := by decide +kernel
theorem dX3_digest_64 : decode cX3_digest 64 = .ok (.aload_n 0, 1) := by decide +kernel
theorem dX3_digest_65 : decode cX3_digest 65 = .ok (.invokevirtual 185, 3) := by decide +kernel
theorem dX3_digest_68 : decode cX3_digest 68 = .ok (.i2l, 1) := by decide +kernel
theorem dX3_digest_69 : decode cX3_digest 69 = .ok (.invokestatic 188, 3) := by decide +kernel
theorem dX3_digest_72 : decode cX3_digest 72 = .ok (.lstore_n 1, 1) := by decide +kernel
theorem dX3_digest_73 : decode cX3_digest 73 = .ok (.iconst 0, 1) := by decide +kernel
theorem dX3_digest_74 : decode cX3_digest 74 = .ok (.istore_n 3, 1) := by decide +kernel
theorem dX3_digest_75 : decode cX3_digest 75 = .ok (.iload_n 3, 1) := by decide +kernel
theorem dX3_digest_76 : decode cX3_digest 76 = .ok (.aload_n 0, 1) := by decide +kernel
theorem dX3_digest_77 : decode cX3_digest 77 = .ok (.getfield 10, 3) := by decide +kernel
theorem dX3_digest_80 : decode cX3_digest 80 = .ok (.getfield 173, 3) := by decide +kernel
theorem dX3_digest_83 : decode cX3_digest 83 = .ok (.if_icmp .ge 24, 3) := by decide +kernel
theorem dX3_digest_86 : decode cX3_digest 86 = .ok (.lload_n 1, 1) := by decide +kernel
theorem dX3_digest_87 : decode cX3_digest 87 = .ok (.aload_n 0, 1) := by decide +kernel
theorem dX3_digest_88 : decode cX3_digest 88 = .ok (.getfield 10, 3) := by decide +kernel
theorem dX3_digest_91 : decode cX3_digest 91 = .ok (.getfield 192, 3) := by decide +kernel
theorem dX3_digest_94 : decode cX3_digest 94 = .ok (.iload_n 3, 1) := by decide +kernel
theorem dX3_digest_95 : decode cX3_digest 95 = .ok (.caload, 1) := by decide +kernel
theorem dX3_digest_96 : decode cX3_digest 96 = .ok (.i2l, 1) := by decide +kernel
theorem dX3_digest_97 : decode cX3_digest 97 = .ok (.invokestatic 188, 3) := by decide +kernel
theorem dX3_digest_100 : decode cX3_digest 100 = .ok (.lstore_n 1, 1) := by decide +kernel
theorem dX3_digest_101 : decode cX3_digest 101 = .ok (.iinc 3 1, 3) := by decide +kernel
theorem dX3_digest_104 : decode cX3_digest 104 = .ok (.goto (-29), 3) := by decide +kernel
theorem dX3_digest_107 : decode cX3_digest 107 = .ok (.iconst 0, 1) := by decide +kernel
theorem dX3_digest_108 : decode cX3_digest 108 = .ok (.istore_n 3, 1) := by decide +kernel
theorem dX3_digest_109 : decode cX3_digest 109 = .ok (.iload_n 3, 1) := by decide +kernel
theorem dX3_digest_110 : decode cX3_digest 110 = .ok (.bipush 8, 2) := by decide +kernel
theorem dX3_digest_112 : decode cX3_digest 112 = .ok (.if_icmp .gt 20, 3) := by decide +kernel
theorem dX3_digest_115 : decode cX3_digest 115 = .ok (.lload_n 1, 1) := by decide +kernel
theorem dX3_digest_116 : decode cX3_digest 116 = .ok (.aload_n 0, 1) := by decide +kernel
theorem dX3_digest_117 : decode cX3_digest 117 = .ok (.iload_n 3, 1) := by decide +kernel
theorem dX3_digest_118 : decode cX3_digest 118 = .ok (.invokevirtual 196, 3) := by decide +kernel
theorem dX3_digest_121 : decode cX3_digest 121 = .ok (.i2l, 1) := by decide +kernel
theorem dX3_digest_122 : decode cX3_digest 122 = .ok (.invokestatic 188, 3) := by decide +kernel
theorem dX3_digest_125 : decode cX3_digest 125 = .ok (.lstore_n 1, 1) := by decide +kernel
theorem dX3_digest_126 : decode cX3_digest 126 = .ok (.iinc 3 1, 3) := by decide +kernel
theorem dX3_digest_129 : decode cX3_digest 129 = .ok (.goto (-20), 3) := by decide +kernel
theorem dX3_digest_132 : decode cX3_digest 132 = .ok (.lload_n 1, 1) := by decide +kernel
theorem dX3_digest_133 : decode cX3_digest 133 = .ok (.lreturn, 1) := by decide +kernel
theorem dX3_hasRing_0 : decode cX3_hasRing 0 = .ok (.aload_n 0, 1) := by decide +kernel
theorem dX3_hasRing_1 : decode cX3_hasRing 1 = .ok (.getfield 19, 3) := by decide +kernel
theorem dX3_hasRing_4 : decode cX3_hasRing 4 = .ok (.getfield 67, 3) := by decide +kernel
theorem dX3_hasRing_7 : decode cX3_hasRing 7 = .ok (.ifCond .le 7, 3) := by decide +kernel
theorem dX3_hasRing_10 : decode cX3_hasRing 10 = .ok (.iconst 1, 1) := by decide +kernel
theorem dX3_hasRing_11 : decode cX3_hasRing 11 = .ok (.goto 4, 3) := by decide +kernel
theorem dX3_hasRing_14 : decode cX3_hasRing 14 = .ok (.iconst 0, 1) := by decide +kernel
theorem dX3_hasRing_15 : decode cX3_hasRing 15 = .ok (.ireturn, 1) := by decide +kernel
theorem dX3_isPlace_0 : decode cX3_isPlace 0 = .ok (.iload_n 1, 1) := by decide +kernel
theorem dX3_isPlace_1 : decode cX3_isPlace 1 = .ok (.ifCond .lt 18, 3) := by decide +kernel
theorem dX3_isPlace_4 : decode cX3_isPlace 4 = .ok (.iload_n 1, 1) := by decide +kernel
theorem dX3_isPlace_5 : decode cX3_isPlace 5 = .ok (.aload_n 0, 1) := by decide +kernel
theorem dX3_isPlace_6 : decode cX3_isPlace 6 = .ok (.getfield 19, 3) := by decide +kernel
theorem dX3_isPlace_9 : decode cX3_isPlace 9 = .ok (.getfield 67, 3) := by decide +kernel
theorem dX3_isPlace_12 : decode cX3_isPlace 12 = .ok (.if_icmp .ge 7, 3) := by decide +kernel
theorem dX3_isPlace_15 : decode cX3_isPlace 15 = .ok (.iconst 1, 1) := by decide +kernel
theorem dX3_isPlace_16 : decode cX3_isPlace 16 = .ok (.goto 4, 3) := by decide +kernel
theorem dX3_isPlace_19 : decode cX3_isPlace 19 = .ok (.iconst 0, 1) := by decide +kernel
theorem dX3_isPlace_20 : decode cX3_isPlace 20 = .ok (.ireturn, 1) := by decide +kernel
theorem dX3_isWord_0 : decode cX3_isWord 0 = .ok (.iload_n 0, 1) := by decide +kernel
theorem dX3_isWord_1 : decode cX3_isWord 1 = .ok (.ifCond .lt 13, 3) := by decide +kernel
theorem dX3_isWord_4 : decode cX3_isWord 4 = .ok (.iload_n 0, 1) := by decide +kernel
theorem dX3_isWord_5 : decode cX3_isWord 5 = .ok (.bipush 8, 2) := by decide +kernel
theorem dX3_isWord_7 : decode cX3_isWord 7 = .ok (.if_icmp .ge 7, 3) := by decide +kernel
theorem dX3_isWord_10 : decode cX3_isWord 10 = .ok (.iconst 1, 1) := by decide +kernel
theorem dX3_isWord_11 : decode cX3_isWord 11 = .ok (.goto 4, 3) := by decide +kernel
theorem dX3_isWord_14 : decode cX3_isWord 14 = .ok (.iconst 0, 1) := by decide +kernel
theorem dX3_isWord_15 : decode cX3_isWord 15 = .ok (.ireturn, 1) := by decide +kernel
theorem dX3_isOf_0 : decode cX3_isOf 0 = .ok (.iload_n 1, 1) := by decide +kernel
theorem dX3_isOf_1 : decode cX3_isOf 1 = .ok (.ifCond .eq 18, 3) := by decide +kernel
theorem dX3_isOf_4 : decode cX3_isOf 4 = .ok (.iload_n 1, 1) := by decide +kernel
theorem dX3_isOf_5 : decode cX3_isOf 5 = .ok (.iload_n 0, 1) := by decide +kernel
theorem dX3_isOf_6 : decode cX3_isOf 6 = .ok (.if_icmp .eq 13, 3) := by decide +kernel
theorem dX3_isOf_9 : decode cX3_isOf 9 = .ok (.iload_n 1, 1) := by decide +kernel
theorem dX3_isOf_10 : decode cX3_isOf 10 = .ok (.iconst 2, 1) := by decide +kernel
theorem dX3_isOf_11 : decode cX3_isOf 11 = .ok (.if_icmp .ne 12, 3) := by decide +kernel
theorem dX3_isOf_14 : decode cX3_isOf 14 = .ok (.iload_n 0, 1) := by decide +kernel
theorem dX3_isOf_15 : decode cX3_isOf 15 = .ok (.iconst 4, 1) := by decide +kernel
theorem dX3_isOf_16 : decode cX3_isOf 16 = .ok (.if_icmp .ne 7, 3) := by decide +kernel
theorem dX3_isOf_19 : decode cX3_isOf 19 = .ok (.iconst 1, 1) := by decide +kernel
theorem dX3_isOf_20 : decode cX3_isOf 20 = .ok (.goto 4, 3) := by decide +kernel
theorem dX3_isOf_23 : decode cX3_isOf 23 = .ok (.iconst 0, 1) := by decide +kernel
theorem dX3_isOf_24 : decode cX3_isOf 24 = .ok (.ireturn, 1) := by decide +kernel
theorem dX3_madeBy_0 : decode cX3_madeBy 0 = .ok (.aload_n 0, 1) := by decide +kernel
theorem dX3_madeBy_1 : decode cX3_madeBy 1 = .ok (.getfield 19, 3) := by decide +kernel
theorem dX3_madeBy_4 : decode cX3_madeBy 4 = .ok (.getfield 74, 3) := by decide +kernel
theorem dX3_madeBy_7 : decode cX3_madeBy 7 = .ok (.iload_n 1, 1) := by decide +kernel
theorem dX3_madeBy_8 : decode cX3_madeBy 8 = .ok (.iaload, 1) := by decide +kernel
theorem dX3_madeBy_9 : decode cX3_madeBy 9 = .ok (.aload_n 0, 1) := by decide +kernel
theorem dX3_madeBy_10 : decode cX3_madeBy 10 = .ok (.getfield 19, 3) := by decide +kernel
theorem dX3_madeBy_13 : decode cX3_madeBy 13 = .ok (.getfield 77, 3) := by decide +kernel
theorem dX3_madeBy_16 : decode cX3_madeBy 16 = .ok (.iload_n 1, 1) := by decide +kernel
theorem dX3_madeBy_17 : decode cX3_madeBy 17 = .ok (.iaload, 1) := by decide +kernel
theorem dX3_madeBy_18 : decode cX3_madeBy 18 = .ok (.aload_n 0, 1) := by decide +kernel
theorem dX3_madeBy_19 : decode cX3_madeBy 19 = .ok (.getfield 19, 3) := by decide +kernel
theorem dX3_madeBy_22 : decode cX3_madeBy 22 = .ok (.getfield 104, 3) := by decide +kernel
theorem dX3_madeBy_25 : decode cX3_madeBy 25 = .ok (.iload_n 2, 1) := by decide +kernel
theorem dX3_madeBy_26 : decode cX3_madeBy 26 = .ok (.invokestatic 199, 3) := by decide +kernel
theorem dX3_madeBy_29 : decode cX3_madeBy 29 = .ok (.ireturn, 1) := by decide +kernel
theorem dX3_sittingsOn_0 : decode cX3_sittingsOn 0 = .ok (.aload_n 0, 1) := by decide +kernel
theorem dX3_sittingsOn_1 : decode cX3_sittingsOn 1 = .ok (.getfield 29, 3) := by decide +kernel
theorem dX3_sittingsOn_4 : decode cX3_sittingsOn 4 = .ok (.aload_n 0, 1) := by decide +kernel
theorem dX3_sittingsOn_5 : decode cX3_sittingsOn 5 = .ok (.getfield 19, 3) := by decide +kernel
theorem dX3_sittingsOn_8 : decode cX3_sittingsOn 8 = .ok (.invokevirtual 107, 3) := by decide +kernel
theorem dX3_sittingsOn_11 : decode cX3_sittingsOn 11 = .ok (.aload_n 0, 1) := by decide +kernel
theorem dX3_sittingsOn_12 : decode cX3_sittingsOn 12 = .ok (.getfield 37, 3) := by decide +kernel
theorem dX3_sittingsOn_15 : decode cX3_sittingsOn 15 = .ok (.iconst (-1), 1) := by decide +kernel
theorem dX3_sittingsOn_16 : decode cX3_sittingsOn 16 = .ok (.invokestatic 202, 3) := by decide +kernel
theorem dX3_sittingsOn_19 : decode cX3_sittingsOn 19 = .ok (.iload_n 1, 1) := by decide +kernel
theorem dX3_sittingsOn_20 : decode cX3_sittingsOn 20 = .ok (.istore 4, 2) := by decide +kernel
theorem dX3_sittingsOn_22 : decode cX3_sittingsOn 22 = .ok (.iload_n 2, 1) := by decide +kernel
theorem dX3_sittingsOn_23 : decode cX3_sittingsOn 23 = .ok (.istore 5, 2) := by decide +kernel
theorem dX3_sittingsOn_25 : decode cX3_sittingsOn 25 = .ok (.iconst 0, 1) := by decide +kernel
theorem dX3_sittingsOn_26 : decode cX3_sittingsOn 26 = .ok (.istore 6, 2) := by decide +kernel
theorem dX3_sittingsOn_28 : decode cX3_sittingsOn 28 = .ok (.iload 6, 2) := by decide +kernel
theorem dX3_sittingsOn_30 : decode cX3_sittingsOn 30 = .ok (.aload_n 0, 1) := by decide +kernel
theorem dX3_sittingsOn_31 : decode cX3_sittingsOn 31 = .ok (.getfield 37, 3) := by decide +kernel
theorem dX3_sittingsOn_34 : decode cX3_sittingsOn 34 = .ok (.arraylength, 1) := by decide +kernel
theorem dX3_sittingsOn_35 : decode cX3_sittingsOn 35 = .ok (.if_icmp .gt 102, 3) := by decide +kernel
theorem dX3_sittingsOn_38 : decode cX3_sittingsOn 38 = .ok (.iload 4, 2) := by decide +kernel
theorem dX3_sittingsOn_40 : decode cX3_sittingsOn 40 = .ok (.bipush 8, 2) := by decide +kernel
theorem dX3_sittingsOn_42 : decode cX3_sittingsOn 42 = .ok (.imul, 1) := by decide +kernel
theorem dX3_sittingsOn_43 : decode cX3_sittingsOn 43 = .ok (.iload 5, 2) := by decide +kernel
theorem dX3_sittingsOn_45 : decode cX3_sittingsOn 45 = .ok (.iadd, 1) := by decide +kernel
theorem dX3_sittingsOn_46 : decode cX3_sittingsOn 46 = .ok (.istore 7, 2) := by decide +kernel
theorem dX3_sittingsOn_48 : decode cX3_sittingsOn 48 = .ok (.aload_n 0, 1) := by decide +kernel
theorem dX3_sittingsOn_49 : decode cX3_sittingsOn 49 = .ok (.getfield 37, 3) := by decide +kernel
theorem dX3_sittingsOn_52 : decode cX3_sittingsOn 52 = .ok (.iload 7, 2) := by decide +kernel
theorem dX3_sittingsOn_54 : decode cX3_sittingsOn 54 = .ok (.iaload, 1) := by decide +kernel
theorem dX3_sittingsOn_55 : decode cX3_sittingsOn 55 = .ok (.iconst (-1), 1) := by decide +kernel
theorem dX3_sittingsOn_56 : decode cX3_sittingsOn 56 = .ok (.if_icmp .eq 17, 3) := by decide +kernel
theorem dX3_sittingsOn_59 : decode cX3_sittingsOn 59 = .ok (.iload 6, 2) := by decide +kernel
theorem dX3_sittingsOn_61 : decode cX3_sittingsOn 61 = .ok (.aload_n 0, 1) := by decide +kernel
theorem dX3_sittingsOn_62 : decode cX3_sittingsOn 62 = .ok (.getfield 37, 3) := by decide +kernel
theorem dX3_sittingsOn_65 : decode cX3_sittingsOn 65 = .ok (.iload 7, 2) := by decide +kernel
theorem dX3_sittingsOn_67 : decode cX3_sittingsOn 67 = .ok (.iaload, 1) := by decide +kernel
theorem dX3_sittingsOn_68 : decode cX3_sittingsOn 68 = .ok (.iload_n 3, 1) := by decide +kernel
theorem dX3_sittingsOn_69 : decode cX3_sittingsOn 69 = .ok (.invokestatic 208, 3) := by decide +kernel
theorem dX3_sittingsOn_72 : decode cX3_sittingsOn 72 = .ok (.ireturn, 1) := by decide +kernel
theorem dX3_sittingsOn_73 : decode cX3_sittingsOn 73 = .ok (.aload_n 0, 1) := by decide +kernel
theorem dX3_sittingsOn_74 : decode cX3_sittingsOn 74 = .ok (.getfield 37, 3) := by decide +kernel
theorem dX3_sittingsOn_77 : decode cX3_sittingsOn 77 = .ok (.iload 7, 2) := by decide +kernel
theorem dX3_sittingsOn_79 : decode cX3_sittingsOn 79 = .ok (.iload 6, 2) := by decide +kernel
theorem dX3_sittingsOn_81 : decode cX3_sittingsOn 81 = .ok (.iastore, 1) := by decide +kernel
theorem dX3_sittingsOn_82 : decode cX3_sittingsOn 82 = .ok (.aload_n 0, 1) := by decide +kernel
theorem dX3_sittingsOn_83 : decode cX3_sittingsOn 83 = .ok (.getfield 29, 3) := by decide +kernel
theorem dX3_sittingsOn_86 : decode cX3_sittingsOn 86 = .ok (.iload 4, 2) := by decide +kernel
theorem dX3_sittingsOn_88 : decode cX3_sittingsOn 88 = .ok (.iload 5, 2) := by decide +kernel
theorem dX3_sittingsOn_90 : decode cX3_sittingsOn 90 = .ok (.invokevirtual 111, 3) := by decide +kernel
theorem dX3_sittingsOn_93 : decode cX3_sittingsOn 93 = .ok (.istore 8, 2) := by decide +kernel
theorem dX3_sittingsOn_95 : decode cX3_sittingsOn 95 = .ok (.iload 8, 2) := by decide +kernel
theorem dX3_sittingsOn_97 : decode cX3_sittingsOn 97 = .ok (.iload 5, 2) := by decide +kernel
theorem dX3_sittingsOn_99 : decode cX3_sittingsOn 99 = .ok (.if_icmp .ne 17, 3) := by decide +kernel
theorem dX3_sittingsOn_102 : decode cX3_sittingsOn 102 = .ok (.iload_n 3, 1) := by decide +kernel
theorem dX3_sittingsOn_103 : decode cX3_sittingsOn 103 = .ok (.iconst 2, 1) := by decide +kernel
theorem dX3_sittingsOn_104 : decode cX3_sittingsOn 104 = .ok (.if_icmp .ne 10, 3) := by decide +kernel
theorem dX3_sittingsOn_107 : decode cX3_sittingsOn 107 = .ok (.iload 6, 2) := by decide +kernel
theorem dX3_sittingsOn_109 : decode cX3_sittingsOn 109 = .ok (.iconst 1, 1) := by decide +kernel
theorem dX3_sittingsOn_110 : decode cX3_sittingsOn 110 = .ok (.iadd, 1) := by decide +kernel
theorem dX3_sittingsOn_111 : decode cX3_sittingsOn 111 = .ok (.goto 4, 3) := by decide +kernel
theorem dX3_sittingsOn_114 : decode cX3_sittingsOn 114 = .ok (.iconst (-1), 1) := by decide +kernel
theorem dX3_sittingsOn_115 : decode cX3_sittingsOn 115 = .ok (.ireturn, 1) := by decide +kernel
theorem dX3_sittingsOn_116 : decode cX3_sittingsOn 116 = .ok (.iload 8, 2) := by decide +kernel
theorem dX3_sittingsOn_118 : decode cX3_sittingsOn 118 = .ok (.istore 5, 2) := by decide +kernel
theorem dX3_sittingsOn_120 : decode cX3_sittingsOn 120 = .ok (.aload_n 0, 1) := by decide +kernel
theorem dX3_sittingsOn_121 : decode cX3_sittingsOn 121 = .ok (.getfield 29, 3) := by decide +kernel
theorem dX3_sittingsOn_124 : decode cX3_sittingsOn 124 = .ok (.iload 4, 2) := by decide +kernel
theorem dX3_sittingsOn_126 : decode cX3_sittingsOn 126 = .ok (.invokevirtual 211, 3) := by decide +kernel
theorem dX3_sittingsOn_129 : decode cX3_sittingsOn 129 = .ok (.istore 4, 2) := by decide +kernel
theorem dX3_sittingsOn_131 : decode cX3_sittingsOn 131 = .ok (.iinc 6 1, 3) := by decide +kernel
theorem dX3_sittingsOn_134 : decode cX3_sittingsOn 134 = .ok (.goto (-106), 3) := by decide +kernel
theorem dX3_sittingsOn_137 : decode cX3_sittingsOn 137 = .ok (.iconst (-1), 1) := by decide +kernel
theorem dX3_sittingsOn_138 : decode cX3_sittingsOn 138 = .ok (.ireturn, 1) := by decide +kernel
theorem dX3_roundsTold_0 : decode cX3_roundsTold 0 = .ok (.iload_n 2, 1) := by decide +kernel
theorem dX3_roundsTold_1 : decode cX3_roundsTold 1 = .ok (.lookupswitch 33 #[(0, 27), (1, 29)], 27) := by decide +kernel
theorem dX3_roundsTold_28 : decode cX3_roundsTold 28 = .ok (.iload_n 0, 1) := by decide +kernel
theorem dX3_roundsTold_29 : decode cX3_roundsTold 29 = .ok (.ireturn, 1) := by decide +kernel
theorem dX3_roundsTold_30 : decode cX3_roundsTold 30 = .ok (.iload_n 0, 1) := by decide +kernel
theorem dX3_roundsTold_31 : decode cX3_roundsTold 31 = .ok (.iload_n 1, 1) := by decide +kernel
theorem dX3_roundsTold_32 : decode cX3_roundsTold 32 = .ok (.isub, 1) := by decide +kernel
theorem dX3_roundsTold_33 : decode cX3_roundsTold 33 = .ok (.ireturn, 1) := by decide +kernel
theorem dX3_roundsTold_34 : decode cX3_roundsTold 34 = .ok (.iconst (-1), 1) := by decide +kernel
theorem dX3_roundsTold_35 : decode cX3_roundsTold 35 = .ok (.ireturn, 1) := by decide +kernel
theorem dX3_nearestSeatings_0 : decode cX3_nearestSeatings 0 = .ok (.iconst (-1), 1) := by decide +kernel
theorem dX3_nearestSeatings_1 : decode cX3_nearestSeatings 1 = .ok (.istore 4, 2) := by decide +kernel
theorem dX3_nearestSeatings_3 : decode cX3_nearestSeatings 3 = .ok (.iconst 0, 1) := by decide +kernel
theorem dX3_nearestSeatings_4 : decode cX3_nearestSeatings 4 = .ok (.istore 5, 2) := by decide +kernel
theorem dX3_nearestSeatings_6 : decode cX3_nearestSeatings 6 = .ok (.aload_n 0, 1) := by decide +kernel
theorem dX3_nearestSeatings_7 : decode cX3_nearestSeatings 7 = .ok (.getfield 19, 3) := by decide +kernel
theorem dX3_nearestSeatings_10 : decode cX3_nearestSeatings 10 = .ok (.getfield 67, 3) := by decide +kernel
theorem dX3_nearestSeatings_13 : decode cX3_nearestSeatings 13 = .ok (.invokestatic 214, 3) := by decide +kernel
theorem dX3_nearestSeatings_16 : decode cX3_nearestSeatings 16 = .ok (.istore 6, 2) := by decide +kernel
theorem dX3_nearestSeatings_18 : decode cX3_nearestSeatings 18 = .ok (.iconst 0, 1) := by decide +kernel
theorem dX3_nearestSeatings_19 : decode cX3_nearestSeatings 19 = .ok (.istore 7, 2) := by decide +kernel
theorem dX3_nearestSeatings_21 : decode cX3_nearestSeatings 21 = .ok (.iload 7, 2) := by decide +kernel
theorem dX3_nearestSeatings_23 : decode cX3_nearestSeatings 23 = .ok (.iload 6, 2) := by decide +kernel
theorem dX3_nearestSeatings_25 : decode cX3_nearestSeatings 25 = .ok (.if_icmp .ge 63, 3) := by decide +kernel
theorem dX3_nearestSeatings_28 : decode cX3_nearestSeatings 28 = .ok (.aload_n 0, 1) := by decide +kernel
theorem dX3_nearestSeatings_29 : decode cX3_nearestSeatings 29 = .ok (.iload 7, 2) := by decide +kernel
theorem dX3_nearestSeatings_31 : decode cX3_nearestSeatings 31 = .ok (.invokevirtual 217, 3) := by decide +kernel
theorem dX3_nearestSeatings_34 : decode cX3_nearestSeatings 34 = .ok (.istore 8, 2) := by decide +kernel
theorem dX3_nearestSeatings_36 : decode cX3_nearestSeatings 36 = .ok (.aload_n 0, 1) := by decide +kernel
theorem dX3_nearestSeatings_37 : decode cX3_nearestSeatings 37 = .ok (.getfield 29, 3) := by decide +kernel
theorem dX3_nearestSeatings_40 : decode cX3_nearestSeatings 40 = .ok (.iconst 0, 1) := by decide +kernel
theorem dX3_nearestSeatings_41 : decode cX3_nearestSeatings 41 = .ok (.iload_n 1, 1) := by decide +kernel
theorem dX3_nearestSeatings_42 : decode cX3_nearestSeatings 42 = .ok (.invokevirtual 111, 3) := by decide +kernel
theorem dX3_nearestSeatings_45 : decode cX3_nearestSeatings 45 = .ok (.iload_n 2, 1) := by decide +kernel
theorem dX3_nearestSeatings_46 : decode cX3_nearestSeatings 46 = .ok (.if_icmp .eq 6, 3) := by decide +kernel
theorem dX3_nearestSeatings_49 : decode cX3_nearestSeatings 49 = .ok (.goto 33, 3) := by decide +kernel
theorem dX3_nearestSeatings_52 : decode cX3_nearestSeatings 52 = .ok (.iload 4, 2) := by decide +kernel
theorem dX3_nearestSeatings_54 : decode cX3_nearestSeatings 54 = .ok (.iconst (-1), 1) := by decide +kernel
theorem dX3_nearestSeatings_55 : decode cX3_nearestSeatings 55 = .ok (.if_icmp .eq 10, 3) := by decide +kernel
theorem dX3_nearestSeatings_58 : decode cX3_nearestSeatings 58 = .ok (.iload 8, 2) := by decide +kernel
theorem dX3_nearestSeatings_60 : decode cX3_nearestSeatings 60 = .ok (.iload 4, 2) := by decide +kernel
theorem dX3_nearestSeatings_62 : decode cX3_nearestSeatings 62 = .ok (.if_icmp .ge 10, 3) := by decide +kernel
theorem dX3_nearestSeatings_65 : decode cX3_nearestSeatings 65 = .ok (.iload 8, 2) := by decide +kernel
theorem dX3_nearestSeatings_67 : decode cX3_nearestSeatings 67 = .ok (.istore 4, 2) := by decide +kernel
theorem dX3_nearestSeatings_69 : decode cX3_nearestSeatings 69 = .ok (.iconst 0, 1) := by decide +kernel
theorem dX3_nearestSeatings_70 : decode cX3_nearestSeatings 70 = .ok (.istore 5, 2) := by decide +kernel
theorem dX3_nearestSeatings_72 : decode cX3_nearestSeatings 72 = .ok (.iload 8, 2) := by decide +kernel
theorem dX3_nearestSeatings_74 : decode cX3_nearestSeatings 74 = .ok (.iload 4, 2) := by decide +kernel
theorem dX3_nearestSeatings_76 : decode cX3_nearestSeatings 76 = .ok (.if_icmp .ne 6, 3) := by decide +kernel
theorem dX3_nearestSeatings_79 : decode cX3_nearestSeatings 79 = .ok (.iinc 5 1, 3) := by decide +kernel
theorem dX3_nearestSeatings_82 : decode cX3_nearestSeatings 82 = .ok (.iinc 7 1, 3) := by decide +kernel
theorem dX3_nearestSeatings_85 : decode cX3_nearestSeatings 85 = .ok (.goto (-64), 3) := by decide +kernel
theorem dX3_nearestSeatings_88 : decode cX3_nearestSeatings 88 = .ok (.iload 4, 2) := by decide +kernel
theorem dX3_nearestSeatings_90 : decode cX3_nearestSeatings 90 = .ok (.iconst (-1), 1) := by decide +kernel
theorem dX3_nearestSeatings_91 : decode cX3_nearestSeatings 91 = .ok (.if_icmp .ne 5, 3) := by decide +kernel
theorem dX3_nearestSeatings_94 : decode cX3_nearestSeatings 94 = .ok (.iconst (-1), 1) := by decide +kernel
theorem dX3_nearestSeatings_95 : decode cX3_nearestSeatings 95 = .ok (.ireturn, 1) := by decide +kernel
theorem dX3_nearestSeatings_96 : decode cX3_nearestSeatings 96 = .ok (.iload_n 3, 1) := by decide +kernel
theorem dX3_nearestSeatings_97 : decode cX3_nearestSeatings 97 = .ok (.ifCond .ne 8, 3) := by decide +kernel
theorem dX3_nearestSeatings_100 : decode cX3_nearestSeatings 100 = .ok (.iload 4, 2) := by decide +kernel
theorem dX3_nearestSeatings_102 : decode cX3_nearestSeatings 102 = .ok (.goto 5, 3) := by decide +kernel
theorem dX3_nearestSeatings_105 : decode cX3_nearestSeatings 105 = .ok (.iload 5, 2) := by decide +kernel
theorem dX3_nearestSeatings_107 : decode cX3_nearestSeatings 107 = .ok (.ireturn, 1) := by decide +kernel
theorem dX3_ordersOf_0 : decode cX3_ordersOf 0 = .ok (.iconst 1, 1) := by decide +kernel
theorem dX3_ordersOf_1 : decode cX3_ordersOf 1 = .ok (.istore_n 1, 1) := by decide +kernel
theorem dX3_ordersOf_2 : decode cX3_ordersOf 2 = .ok (.iconst 2, 1) := by decide +kernel
theorem dX3_ordersOf_3 : decode cX3_ordersOf 3 = .ok (.istore_n 2, 1) := by decide +kernel
theorem dX3_ordersOf_4 : decode cX3_ordersOf 4 = .ok (.iload_n 2, 1) := by decide +kernel
theorem dX3_ordersOf_5 : decode cX3_ordersOf 5 = .ok (.iload_n 0, 1) := by decide +kernel
theorem dX3_ordersOf_6 : decode cX3_ordersOf 6 = .ok (.if_icmp .gt 13, 3) := by decide +kernel
theorem dX3_ordersOf_9 : decode cX3_ordersOf 9 = .ok (.iload_n 1, 1) := by decide +kernel
theorem dX3_ordersOf_10 : decode cX3_ordersOf 10 = .ok (.iload_n 2, 1) := by decide +kernel
theorem dX3_ordersOf_11 : decode cX3_ordersOf 11 = .ok (.imul, 1) := by decide +kernel
theorem dX3_ordersOf_12 : decode cX3_ordersOf 12 = .ok (.istore_n 1, 1) := by decide +kernel
theorem dX3_ordersOf_13 : decode cX3_ordersOf 13 = .ok (.iinc 2 1, 3) := by decide +kernel
theorem dX3_ordersOf_16 : decode cX3_ordersOf 16 = .ok (.goto (-12), 3) := by decide +kernel
theorem dX3_ordersOf_19 : decode cX3_ordersOf 19 = .ok (.iload_n 1, 1) := by decide +kernel
theorem dX3_ordersOf_20 : decode cX3_ordersOf 20 = .ok (.ireturn, 1) := by decide +kernel
theorem dX3_seatByOrder_0 : decode cX3_seatByOrder 0 = .ok (.aload_n 0, 1) := by decide +kernel
