theorem dX3_seatByOrder_1 : decode cX3_seatByOrder 1 = .ok (.getfield 29, 3) := by decide +kernel
theorem dX3_seatByOrder_4 : decode cX3_seatByOrder 4 = .ok (.aload_n 0, 1) := by decide +kernel
theorem dX3_seatByOrder_5 : decode cX3_seatByOrder 5 = .ok (.getfield 19, 3) := by decide +kernel
theorem dX3_seatByOrder_8 : decode cX3_seatByOrder 8 = .ok (.invokevirtual 107, 3) := by decide +kernel
theorem dX3_seatByOrder_11 : decode cX3_seatByOrder 11 = .ok (.iload_n 1, 1) := by decide +kernel
theorem dX3_seatByOrder_12 : decode cX3_seatByOrder 12 = .ok (.istore_n 2, 1) := by decide +kernel
theorem dX3_seatByOrder_13 : decode cX3_seatByOrder 13 = .ok (.iconst 0, 1) := by decide +kernel
theorem dX3_seatByOrder_14 : decode cX3_seatByOrder 14 = .ok (.istore_n 3, 1) := by decide +kernel
theorem dX3_seatByOrder_15 : decode cX3_seatByOrder 15 = .ok (.iconst 1, 1) := by decide +kernel
theorem dX3_seatByOrder_16 : decode cX3_seatByOrder 16 = .ok (.istore 4, 2) := by decide +kernel
theorem dX3_seatByOrder_18 : decode cX3_seatByOrder 18 = .ok (.iload 4, 2) := by decide +kernel
theorem dX3_seatByOrder_20 : decode cX3_seatByOrder 20 = .ok (.aload_n 0, 1) := by decide +kernel
theorem dX3_seatByOrder_21 : decode cX3_seatByOrder 21 = .ok (.getfield 19, 3) := by decide +kernel
theorem dX3_seatByOrder_24 : decode cX3_seatByOrder 24 = .ok (.getfield 67, 3) := by decide +kernel
theorem dX3_seatByOrder_27 : decode cX3_seatByOrder 27 = .ok (.if_icmp .ge 45, 3) := by decide +kernel
theorem dX3_seatByOrder_30 : decode cX3_seatByOrder 30 = .ok (.iload_n 2, 1) := by decide +kernel
theorem dX3_seatByOrder_31 : decode cX3_seatByOrder 31 = .ok (.iload 4, 2) := by decide +kernel
theorem dX3_seatByOrder_33 : decode cX3_seatByOrder 33 = .ok (.iconst 1, 1) := by decide +kernel
theorem dX3_seatByOrder_34 : decode cX3_seatByOrder 34 = .ok (.iadd, 1) := by decide +kernel
theorem dX3_seatByOrder_35 : decode cX3_seatByOrder 35 = .ok (.irem, 1) := by decide +kernel
theorem dX3_seatByOrder_36 : decode cX3_seatByOrder 36 = .ok (.istore 5, 2) := by decide +kernel
theorem dX3_seatByOrder_38 : decode cX3_seatByOrder 38 = .ok (.iload_n 2, 1) := by decide +kernel
theorem dX3_seatByOrder_39 : decode cX3_seatByOrder 39 = .ok (.iload 4, 2) := by decide +kernel
theorem dX3_seatByOrder_41 : decode cX3_seatByOrder 41 = .ok (.iconst 1, 1) := by decide +kernel
theorem dX3_seatByOrder_42 : decode cX3_seatByOrder 42 = .ok (.iadd, 1) := by decide +kernel
theorem dX3_seatByOrder_43 : decode cX3_seatByOrder 43 = .ok (.idiv, 1) := by decide +kernel
theorem dX3_seatByOrder_44 : decode cX3_seatByOrder 44 = .ok (.istore_n 2, 1) := by decide +kernel
theorem dX3_seatByOrder_45 : decode cX3_seatByOrder 45 = .ok (.iload 5, 2) := by decide +kernel
theorem dX3_seatByOrder_47 : decode cX3_seatByOrder 47 = .ok (.iload 4, 2) := by decide +kernel
theorem dX3_seatByOrder_49 : decode cX3_seatByOrder 49 = .ok (.if_icmp .eq 17, 3) := by decide +kernel
theorem dX3_seatByOrder_52 : decode cX3_seatByOrder 52 = .ok (.aload_n 0, 1) := by decide +kernel
theorem dX3_seatByOrder_53 : decode cX3_seatByOrder 53 = .ok (.getfield 29, 3) := by decide +kernel
theorem dX3_seatByOrder_56 : decode cX3_seatByOrder 56 = .ok (.iload 4, 2) := by decide +kernel
theorem dX3_seatByOrder_58 : decode cX3_seatByOrder 58 = .ok (.iload 5, 2) := by decide +kernel
theorem dX3_seatByOrder_60 : decode cX3_seatByOrder 60 = .ok (.invokevirtual 220, 3) := by decide +kernel
theorem dX3_seatByOrder_63 : decode cX3_seatByOrder 63 = .ok (.iinc 3 1, 3) := by decide +kernel
theorem dX3_seatByOrder_66 : decode cX3_seatByOrder 66 = .ok (.iinc 4 1, 3) := by decide +kernel
theorem dX3_seatByOrder_69 : decode cX3_seatByOrder 69 = .ok (.goto (-51), 3) := by decide +kernel
theorem dX3_seatByOrder_72 : decode cX3_seatByOrder 72 = .ok (.iload_n 3, 1) := by decide +kernel
theorem dX3_seatByOrder_73 : decode cX3_seatByOrder 73 = .ok (.ireturn, 1) := by decide +kernel
theorem dX3_broodsThatSay_0 : decode cX3_broodsThatSay 0 = .ok (.aload_n 0, 1) := by decide +kernel
theorem dX3_broodsThatSay_1 : decode cX3_broodsThatSay 1 = .ok (.getfield 29, 3) := by decide +kernel
theorem dX3_broodsThatSay_4 : decode cX3_broodsThatSay 4 = .ok (.aload_n 0, 1) := by decide +kernel
theorem dX3_broodsThatSay_5 : decode cX3_broodsThatSay 5 = .ok (.getfield 19, 3) := by decide +kernel
theorem dX3_broodsThatSay_8 : decode cX3_broodsThatSay 8 = .ok (.invokevirtual 107, 3) := by decide +kernel
theorem dX3_broodsThatSay_11 : decode cX3_broodsThatSay 11 = .ok (.iconst 0, 1) := by decide +kernel
theorem dX3_broodsThatSay_12 : decode cX3_broodsThatSay 12 = .ok (.istore 5, 2) := by decide +kernel
theorem dX3_broodsThatSay_14 : decode cX3_broodsThatSay 14 = .ok (.iconst 0, 1) := by decide +kernel
theorem dX3_broodsThatSay_15 : decode cX3_broodsThatSay 15 = .ok (.istore 6, 2) := by decide +kernel
theorem dX3_broodsThatSay_17 : decode cX3_broodsThatSay 17 = .ok (.iload 6, 2) := by decide +kernel
theorem dX3_broodsThatSay_19 : decode cX3_broodsThatSay 19 = .ok (.iload_n 1, 1) := by decide +kernel
theorem dX3_broodsThatSay_20 : decode cX3_broodsThatSay 20 = .ok (.if_icmp .gt 48, 3) := by decide +kernel
theorem dX3_broodsThatSay_23 : decode cX3_broodsThatSay 23 = .ok (.iload 6, 2) := by decide +kernel
theorem dX3_broodsThatSay_25 : decode cX3_broodsThatSay 25 = .ok (.iload_n 1, 1) := by decide +kernel
theorem dX3_broodsThatSay_26 : decode cX3_broodsThatSay 26 = .ok (.iconst (-1), 1) := by decide +kernel
theorem dX3_broodsThatSay_27 : decode cX3_broodsThatSay 27 = .ok (.ixor, 1) := by decide +kernel
theorem dX3_broodsThatSay_28 : decode cX3_broodsThatSay 28 = .ok (.iand, 1) := by decide +kernel
theorem dX3_broodsThatSay_29 : decode cX3_broodsThatSay 29 = .ok (.ifCond .eq 6, 3) := by decide +kernel
theorem dX3_broodsThatSay_32 : decode cX3_broodsThatSay 32 = .ok (.goto 30, 3) := by decide +kernel
theorem dX3_broodsThatSay_35 : decode cX3_broodsThatSay 35 = .ok (.aload_n 0, 1) := by decide +kernel
theorem dX3_broodsThatSay_36 : decode cX3_broodsThatSay 36 = .ok (.getfield 29, 3) := by decide +kernel
theorem dX3_broodsThatSay_39 : decode cX3_broodsThatSay 39 = .ok (.iload_n 1, 1) := by decide +kernel
theorem dX3_broodsThatSay_40 : decode cX3_broodsThatSay 40 = .ok (.iload 6, 2) := by decide +kernel
theorem dX3_broodsThatSay_42 : decode cX3_broodsThatSay 42 = .ok (.invokevirtual 224, 3) := by decide +kernel
theorem dX3_broodsThatSay_45 : decode cX3_broodsThatSay 45 = .ok (.aload_n 0, 1) := by decide +kernel
theorem dX3_broodsThatSay_46 : decode cX3_broodsThatSay 46 = .ok (.getfield 29, 3) := by decide +kernel
theorem dX3_broodsThatSay_49 : decode cX3_broodsThatSay 49 = .ok (.iload_n 2, 1) := by decide +kernel
theorem dX3_broodsThatSay_50 : decode cX3_broodsThatSay 50 = .ok (.iload_n 3, 1) := by decide +kernel
theorem dX3_broodsThatSay_51 : decode cX3_broodsThatSay 51 = .ok (.invokevirtual 111, 3) := by decide +kernel
theorem dX3_broodsThatSay_54 : decode cX3_broodsThatSay 54 = .ok (.iload 4, 2) := by decide +kernel
theorem dX3_broodsThatSay_56 : decode cX3_broodsThatSay 56 = .ok (.if_icmp .ne 6, 3) := by decide +kernel
theorem dX3_broodsThatSay_59 : decode cX3_broodsThatSay 59 = .ok (.iinc 5 1, 3) := by decide +kernel
theorem dX3_broodsThatSay_62 : decode cX3_broodsThatSay 62 = .ok (.iinc 6 1, 3) := by decide +kernel
theorem dX3_broodsThatSay_65 : decode cX3_broodsThatSay 65 = .ok (.goto (-48), 3) := by decide +kernel
theorem dX3_broodsThatSay_68 : decode cX3_broodsThatSay 68 = .ok (.iload 5, 2) := by decide +kernel
theorem dX3_broodsThatSay_70 : decode cX3_broodsThatSay 70 = .ok (.ireturn, 1) := by decide +kernel
theorem dX3_guessesFor_0 : decode cX3_guessesFor 0 = .ok (.aload_n 0, 1) := by decide +kernel
theorem dX3_guessesFor_1 : decode cX3_guessesFor 1 = .ok (.getfield 29, 3) := by decide +kernel
theorem dX3_guessesFor_4 : decode cX3_guessesFor 4 = .ok (.aload_n 0, 1) := by decide +kernel
theorem dX3_guessesFor_5 : decode cX3_guessesFor 5 = .ok (.getfield 19, 3) := by decide +kernel
theorem dX3_guessesFor_8 : decode cX3_guessesFor 8 = .ok (.invokevirtual 107, 3) := by decide +kernel
theorem dX3_guessesFor_11 : decode cX3_guessesFor 11 = .ok (.lconst 0, 1) := by decide +kernel
theorem dX3_guessesFor_12 : decode cX3_guessesFor 12 = .ok (.lstore_n 2, 1) := by decide +kernel
theorem dX3_guessesFor_13 : decode cX3_guessesFor 13 = .ok (.iconst 0, 1) := by decide +kernel
theorem dX3_guessesFor_14 : decode cX3_guessesFor 14 = .ok (.istore 4, 2) := by decide +kernel
theorem dX3_guessesFor_16 : decode cX3_guessesFor 16 = .ok (.iload 4, 2) := by decide +kernel
theorem dX3_guessesFor_18 : decode cX3_guessesFor 18 = .ok (.bipush 40, 2) := by decide +kernel
theorem dX3_guessesFor_20 : decode cX3_guessesFor 20 = .ok (.if_icmp .ge 48, 3) := by decide +kernel
theorem dX3_guessesFor_23 : decode cX3_guessesFor 23 = .ok (.aload_n 0, 1) := by decide +kernel
theorem dX3_guessesFor_24 : decode cX3_guessesFor 24 = .ok (.getfield 29, 3) := by decide +kernel
theorem dX3_guessesFor_27 : decode cX3_guessesFor 27 = .ok (.iload_n 1, 1) := by decide +kernel
theorem dX3_guessesFor_28 : decode cX3_guessesFor 28 = .ok (.iload 4, 2) := by decide +kernel
theorem dX3_guessesFor_30 : decode cX3_guessesFor 30 = .ok (.bipush 8, 2) := by decide +kernel
theorem dX3_guessesFor_32 : decode cX3_guessesFor 32 = .ok (.idiv, 1) := by decide +kernel
theorem dX3_guessesFor_33 : decode cX3_guessesFor 33 = .ok (.iload 4, 2) := by decide +kernel
theorem dX3_guessesFor_35 : decode cX3_guessesFor 35 = .ok (.bipush 8, 2) := by decide +kernel
theorem dX3_guessesFor_37 : decode cX3_guessesFor 37 = .ok (.irem, 1) := by decide +kernel
theorem dX3_guessesFor_38 : decode cX3_guessesFor 38 = .ok (.invokevirtual 227, 3) := by decide +kernel
theorem dX3_guessesFor_41 : decode cX3_guessesFor 41 = .ok (.aload_n 0, 1) := by decide +kernel
theorem dX3_guessesFor_42 : decode cX3_guessesFor 42 = .ok (.getfield 19, 3) := by decide +kernel
theorem dX3_guessesFor_45 : decode cX3_guessesFor 45 = .ok (.aload_n 0, 1) := by decide +kernel
theorem dX3_guessesFor_46 : decode cX3_guessesFor 46 = .ok (.getfield 29, 3) := by decide +kernel
theorem dX3_guessesFor_49 : decode cX3_guessesFor 49 = .ok (.invokevirtual 231, 3) := by decide +kernel
theorem dX3_guessesFor_52 : decode cX3_guessesFor 52 = .ok (.ifCond .eq 10, 3) := by decide +kernel
theorem dX3_guessesFor_55 : decode cX3_guessesFor 55 = .ok (.lload_n 2, 1) := by decide +kernel
theorem dX3_guessesFor_56 : decode cX3_guessesFor 56 = .ok (.lconst 1, 1) := by decide +kernel
theorem dX3_guessesFor_57 : decode cX3_guessesFor 57 = .ok (.iload 4, 2) := by decide +kernel
theorem dX3_guessesFor_59 : decode cX3_guessesFor 59 = .ok (.lshl, 1) := by decide +kernel
theorem dX3_guessesFor_60 : decode cX3_guessesFor 60 = .ok (.lor, 1) := by decide +kernel
theorem dX3_guessesFor_61 : decode cX3_guessesFor 61 = .ok (.lstore_n 2, 1) := by decide +kernel
theorem dX3_guessesFor_62 : decode cX3_guessesFor 62 = .ok (.iinc 4 1, 3) := by decide +kernel
theorem dX3_guessesFor_65 : decode cX3_guessesFor 65 = .ok (.goto (-49), 3) := by decide +kernel
theorem dX3_guessesFor_68 : decode cX3_guessesFor 68 = .ok (.lload_n 2, 1) := by decide +kernel
theorem dX3_guessesFor_69 : decode cX3_guessesFor 69 = .ok (.lreturn, 1) := by decide +kernel
theorem dX3_leastOf_0 : decode cX3_leastOf 0 = .ok (.lload_n 0, 1) := by decide +kernel
theorem dX3_leastOf_1 : decode cX3_leastOf 1 = .ok (.lconst 0, 1) := by decide +kernel
theorem dX3_leastOf_2 : decode cX3_leastOf 2 = .ok (.lcmp, 1) := by decide +kernel
theorem dX3_leastOf_3 : decode cX3_leastOf 3 = .ok (.ifCond .ne 7, 3) := by decide +kernel
theorem dX3_leastOf_6 : decode cX3_leastOf 6 = .ok (.iconst (-1), 1) := by decide +kernel
theorem dX3_leastOf_7 : decode cX3_leastOf 7 = .ok (.goto 7, 3) := by decide +kernel
theorem dX3_leastOf_10 : decode cX3_leastOf 10 = .ok (.lload_n 0, 1) := by decide +kernel
theorem dX3_leastOf_11 : decode cX3_leastOf 11 = .ok (.invokestatic 235, 3) := by decide +kernel
theorem dX3_leastOf_14 : decode cX3_leastOf 14 = .ok (.ireturn, 1) := by decide +kernel
theorem dX3_bestMotion_0 : decode cX3_bestMotion 0 = .ok (.lload_n 2, 1) := by decide +kernel
theorem dX3_bestMotion_1 : decode cX3_bestMotion 1 = .ok (.lconst 0, 1) := by decide +kernel
theorem dX3_bestMotion_2 : decode cX3_bestMotion 2 = .ok (.lcmp, 1) := by decide +kernel
theorem dX3_bestMotion_3 : decode cX3_bestMotion 3 = .ok (.ifCond .ne 5, 3) := by decide +kernel
theorem dX3_bestMotion_6 : decode cX3_bestMotion 6 = .ok (.iconst (-1), 1) := by decide +kernel
theorem dX3_bestMotion_7 : decode cX3_bestMotion 7 = .ok (.ireturn, 1) := by decide +kernel
theorem dX3_bestMotion_8 : decode cX3_bestMotion 8 = .ok (.iconst 0, 1) := by decide +kernel
theorem dX3_bestMotion_9 : decode cX3_bestMotion 9 = .ok (.istore 4, 2) := by decide +kernel
theorem dX3_bestMotion_11 : decode cX3_bestMotion 11 = .ok (.aload_n 0, 1) := by decide +kernel
theorem dX3_bestMotion_12 : decode cX3_bestMotion 12 = .ok (.iload_n 1, 1) := by decide +kernel
theorem dX3_bestMotion_13 : decode cX3_bestMotion 13 = .ok (.iconst 0, 1) := by decide +kernel
theorem dX3_bestMotion_14 : decode cX3_bestMotion 14 = .ok (.lload_n 2, 1) := by decide +kernel
theorem dX3_bestMotion_15 : decode cX3_bestMotion 15 = .ok (.invokevirtual 238, 3) := by decide +kernel
theorem dX3_bestMotion_18 : decode cX3_bestMotion 18 = .ok (.istore 5, 2) := by decide +kernel
theorem dX3_bestMotion_20 : decode cX3_bestMotion 20 = .ok (.iconst 1, 1) := by decide +kernel
theorem dX3_bestMotion_21 : decode cX3_bestMotion 21 = .ok (.istore 6, 2) := by decide +kernel
theorem dX3_bestMotion_23 : decode cX3_bestMotion 23 = .ok (.iload 6, 2) := by decide +kernel
theorem dX3_bestMotion_25 : decode cX3_bestMotion 25 = .ok (.bipush 8, 2) := by decide +kernel
theorem dX3_bestMotion_27 : decode cX3_bestMotion 27 = .ok (.if_icmp .ge 34, 3) := by decide +kernel
theorem dX3_bestMotion_30 : decode cX3_bestMotion 30 = .ok (.aload_n 0, 1) := by decide +kernel
theorem dX3_bestMotion_31 : decode cX3_bestMotion 31 = .ok (.iload_n 1, 1) := by decide +kernel
theorem dX3_bestMotion_32 : decode cX3_bestMotion 32 = .ok (.iload 6, 2) := by decide +kernel
theorem dX3_bestMotion_34 : decode cX3_bestMotion 34 = .ok (.lload_n 2, 1) := by decide +kernel
theorem dX3_bestMotion_35 : decode cX3_bestMotion 35 = .ok (.invokevirtual 238, 3) := by decide +kernel
theorem dX3_bestMotion_38 : decode cX3_bestMotion 38 = .ok (.istore 7, 2) := by decide +kernel
theorem dX3_bestMotion_40 : decode cX3_bestMotion 40 = .ok (.iload 7, 2) := by decide +kernel
theorem dX3_bestMotion_42 : decode cX3_bestMotion 42 = .ok (.iload 5, 2) := by decide +kernel
theorem dX3_bestMotion_44 : decode cX3_bestMotion 44 = .ok (.if_icmp .ge 11, 3) := by decide +kernel
theorem dX3_bestMotion_47 : decode cX3_bestMotion 47 = .ok (.iload 6, 2) := by decide +kernel
theorem dX3_bestMotion_49 : decode cX3_bestMotion 49 = .ok (.istore 4, 2) := by decide +kernel
theorem dX3_bestMotion_51 : decode cX3_bestMotion 51 = .ok (.iload 7, 2) := by decide +kernel
theorem dX3_bestMotion_53 : decode cX3_bestMotion 53 = .ok (.istore 5, 2) := by decide +kernel
theorem dX3_bestMotion_55 : decode cX3_bestMotion 55 = .ok (.iinc 6 1, 3) := by decide +kernel
theorem dX3_bestMotion_58 : decode cX3_bestMotion 58 = .ok (.goto (-35), 3) := by decide +kernel
theorem dX3_bestMotion_61 : decode cX3_bestMotion 61 = .ok (.iload 4, 2) := by decide +kernel
theorem dX3_bestMotion_63 : decode cX3_bestMotion 63 = .ok (.ireturn, 1) := by decide +kernel
theorem dX3_leftAtWorst_0 : decode cX3_leftAtWorst 0 = .ok (.aload_n 0, 1) := by decide +kernel
theorem dX3_leftAtWorst_1 : decode cX3_leftAtWorst 1 = .ok (.getfield 29, 3) := by decide +kernel
theorem dX3_leftAtWorst_4 : decode cX3_leftAtWorst 4 = .ok (.aload_n 0, 1) := by decide +kernel
theorem dX3_leftAtWorst_5 : decode cX3_leftAtWorst 5 = .ok (.getfield 19, 3) := by decide +kernel
theorem dX3_leftAtWorst_8 : decode cX3_leftAtWorst 8 = .ok (.invokevirtual 107, 3) := by decide +kernel
theorem dX3_leftAtWorst_11 : decode cX3_leftAtWorst 11 = .ok (.aload_n 0, 1) := by decide +kernel
theorem dX3_leftAtWorst_12 : decode cX3_leftAtWorst 12 = .ok (.getfield 33, 3) := by decide +kernel
theorem dX3_leftAtWorst_15 : decode cX3_leftAtWorst 15 = .ok (.iconst 0, 1) := by decide +kernel
theorem dX3_leftAtWorst_16 : decode cX3_leftAtWorst 16 = .ok (.invokestatic 202, 3) := by decide +kernel
theorem dX3_leftAtWorst_19 : decode cX3_leftAtWorst 19 = .ok (.iconst 0, 1) := by decide +kernel
theorem dX3_leftAtWorst_20 : decode cX3_leftAtWorst 20 = .ok (.istore 5, 2) := by decide +kernel
theorem dX3_leftAtWorst_22 : decode cX3_leftAtWorst 22 = .ok (.iconst 0, 1) := by decide +kernel
theorem dX3_leftAtWorst_23 : decode cX3_leftAtWorst 23 = .ok (.istore 6, 2) := by decide +kernel
theorem dX3_leftAtWorst_25 : decode cX3_leftAtWorst 25 = .ok (.iload 6, 2) := by decide +kernel
theorem dX3_leftAtWorst_27 : decode cX3_leftAtWorst 27 = .ok (.bipush 40, 2) := by decide +kernel
theorem dX3_leftAtWorst_29 : decode cX3_leftAtWorst 29 = .ok (.if_icmp .ge 77, 3) := by decide +kernel
theorem dX3_leftAtWorst_32 : decode cX3_leftAtWorst 32 = .ok (.lload_n 3, 1) := by decide +kernel
theorem dX3_leftAtWorst_33 : decode cX3_leftAtWorst 33 = .ok (.iload 6, 2) := by decide +kernel
theorem dX3_leftAtWorst_35 : decode cX3_leftAtWorst 35 = .ok (.lshr, 1) := by decide +kernel
theorem dX3_leftAtWorst_36 : decode cX3_leftAtWorst 36 = .ok (.lconst 1, 1) := by decide +kernel
theorem dX3_leftAtWorst_37 : decode cX3_leftAtWorst 37 = .ok (.land, 1) := by decide +kernel
theorem dX3_leftAtWorst_38 : decode cX3_leftAtWorst 38 = .ok (.lconst 0, 1) := by decide +kernel
theorem dX3_leftAtWorst_39 : decode cX3_leftAtWorst 39 = .ok (.lcmp, 1) := by decide +kernel
theorem dX3_leftAtWorst_40 : decode cX3_leftAtWorst 40 = .ok (.ifCond .ne 6, 3) := by decide +kernel
theorem dX3_leftAtWorst_43 : decode cX3_leftAtWorst 43 = .ok (.goto 57, 3) := by decide +kernel
theorem dX3_leftAtWorst_46 : decode cX3_leftAtWorst 46 = .ok (.aload_n 0, 1) := by decide +kernel
theorem dX3_leftAtWorst_47 : decode cX3_leftAtWorst 47 = .ok (.getfield 29, 3) := by decide +kernel
theorem dX3_leftAtWorst_50 : decode cX3_leftAtWorst 50 = .ok (.iload_n 1, 1) := by decide +kernel
theorem dX3_leftAtWorst_51 : decode cX3_leftAtWorst 51 = .ok (.iload 6, 2) := by decide +kernel
theorem dX3_leftAtWorst_53 : decode cX3_leftAtWorst 53 = .ok (.bipush 8, 2) := by decide +kernel
theorem dX3_leftAtWorst_55 : decode cX3_leftAtWorst 55 = .ok (.idiv, 1) := by decide +kernel
theorem dX3_leftAtWorst_56 : decode cX3_leftAtWorst 56 = .ok (.iload 6, 2) := by decide +kernel
theorem dX3_leftAtWorst_58 : decode cX3_leftAtWorst 58 = .ok (.bipush 8, 2) := by decide +kernel
theorem dX3_leftAtWorst_60 : decode cX3_leftAtWorst 60 = .ok (.irem, 1) := by decide +kernel
theorem dX3_leftAtWorst_61 : decode cX3_leftAtWorst 61 = .ok (.invokevirtual 227, 3) := by decide +kernel
theorem dX3_leftAtWorst_64 : decode cX3_leftAtWorst 64 = .ok (.aload_n 0, 1) := by decide +kernel
theorem dX3_leftAtWorst_65 : decode cX3_leftAtWorst 65 = .ok (.getfield 29, 3) := by decide +kernel
theorem dX3_leftAtWorst_68 : decode cX3_leftAtWorst 68 = .ok (.iload_n 1, 1) := by decide +kernel
theorem dX3_leftAtWorst_69 : decode cX3_leftAtWorst 69 = .ok (.iload_n 2, 1) := by decide +kernel
theorem dX3_leftAtWorst_70 : decode cX3_leftAtWorst 70 = .ok (.invokevirtual 111, 3) := by decide +kernel
theorem dX3_leftAtWorst_73 : decode cX3_leftAtWorst 73 = .ok (.istore 7, 2) := by decide +kernel
theorem dX3_leftAtWorst_75 : decode cX3_leftAtWorst 75 = .ok (.aload_n 0, 1) := by decide +kernel
theorem dX3_leftAtWorst_76 : decode cX3_leftAtWorst 76 = .ok (.getfield 33, 3) := by decide +kernel
theorem dX3_leftAtWorst_79 : decode cX3_leftAtWorst 79 = .ok (.iload 7, 2) := by decide +kernel
theorem dX3_leftAtWorst_81 : decode cX3_leftAtWorst 81 = .ok (.dup2, 1) := by decide +kernel
theorem dX3_leftAtWorst_82 : decode cX3_leftAtWorst 82 = .ok (.iaload, 1) := by decide +kernel
theorem dX3_leftAtWorst_83 : decode cX3_leftAtWorst 83 = .ok (.iconst 1, 1) := by decide +kernel
theorem dX3_leftAtWorst_84 : decode cX3_leftAtWorst 84 = .ok (.iadd, 1) := by decide +kernel
theorem dX3_leftAtWorst_85 : decode cX3_leftAtWorst 85 = .ok (.iastore, 1) := by decide +kernel
theorem dX3_leftAtWorst_86 : decode cX3_leftAtWorst 86 = .ok (.iload 5, 2) := by decide +kernel
theorem dX3_leftAtWorst_88 : decode cX3_leftAtWorst 88 = .ok (.aload_n 0, 1) := by decide +kernel
theorem dX3_leftAtWorst_89 : decode cX3_leftAtWorst 89 = .ok (.getfield 33, 3) := by decide +kernel
theorem dX3_leftAtWorst_92 : decode cX3_leftAtWorst 92 = .ok (.iload 7, 2) := by decide +kernel
theorem dX3_leftAtWorst_94 : decode cX3_leftAtWorst 94 = .ok (.iaload, 1) := by decide +kernel
theorem dX3_leftAtWorst_95 : decode cX3_leftAtWorst 95 = .ok (.invokestatic 242, 3) := by decide +kernel
theorem dX3_leftAtWorst_98 : decode cX3_leftAtWorst 98 = .ok (.istore 5, 2) := by decide +kernel
theorem dX3_leftAtWorst_100 : decode cX3_leftAtWorst 100 = .ok (.iinc 6 1, 3) := by decide +kernel
theorem dX3_leftAtWorst_103 : decode cX3_leftAtWorst 103 = .ok (.goto (-78), 3) := by decide +kernel
theorem dX3_leftAtWorst_106 : decode cX3_leftAtWorst 106 = .ok (.iload 5, 2) := by decide +kernel
theorem dX3_leftAtWorst_108 : decode cX3_leftAtWorst 108 = .ok (.ireturn, 1) := by decide +kernel
theorem dX3_yearsGoneBy_0 : decode cX3_yearsGoneBy 0 = .ok (.aload_n 0, 1) := by decide +kernel
theorem dX3_yearsGoneBy_1 : decode cX3_yearsGoneBy 1 = .ok (.getfield 29, 3) := by decide +kernel
theorem dX3_yearsGoneBy_4 : decode cX3_yearsGoneBy 4 = .ok (.aload_n 0, 1) := by decide +kernel
theorem dX3_yearsGoneBy_5 : decode cX3_yearsGoneBy 5 = .ok (.getfield 19, 3) := by decide +kernel
theorem dX3_yearsGoneBy_8 : decode cX3_yearsGoneBy 8 = .ok (.invokevirtual 107, 3) := by decide +kernel
theorem dX3_yearsGoneBy_11 : decode cX3_yearsGoneBy 11 = .ok (.iload_n 2, 1) := by decide +kernel
theorem dX3_yearsGoneBy_12 : decode cX3_yearsGoneBy 12 = .ok (.istore 4, 2) := by decide +kernel
theorem dX3_yearsGoneBy_14 : decode cX3_yearsGoneBy 14 = .ok (.iconst 0, 1) := by decide +kernel
theorem dX3_yearsGoneBy_15 : decode cX3_yearsGoneBy 15 = .ok (.istore 5, 2) := by decide +kernel
theorem dX3_yearsGoneBy_17 : decode cX3_yearsGoneBy 17 = .ok (.iconst (-1), 1) := by decide +kernel
theorem dX3_yearsGoneBy_18 : decode cX3_yearsGoneBy 18 = .ok (.istore 6, 2) := by decide +kernel
theorem dX3_yearsGoneBy_20 : decode cX3_yearsGoneBy 20 = .ok (.iconst 0, 1) := by decide +kernel
theorem dX3_yearsGoneBy_21 : decode cX3_yearsGoneBy 21 = .ok (.istore 7, 2) := by decide +kernel
theorem dX3_yearsGoneBy_23 : decode cX3_yearsGoneBy 23 = .ok (.iload 7, 2) := by decide +kernel
theorem dX3_yearsGoneBy_25 : decode cX3_yearsGoneBy 25 = .ok (.iload_n 1, 1) := by decide +kernel
theorem dX3_yearsGoneBy_26 : decode cX3_yearsGoneBy 26 = .ok (.if_icmp .ge 83, 3) := by decide +kernel
theorem dX3_yearsGoneBy_29 : decode cX3_yearsGoneBy 29 = .ok (.iload 4, 2) := by decide +kernel
theorem dX3_yearsGoneBy_31 : decode cX3_yearsGoneBy 31 = .ok (.invokestatic 247, 3) := by decide +kernel
theorem dX3_yearsGoneBy_34 : decode cX3_yearsGoneBy 34 = .ok (.istore 4, 2) := by decide +kernel
theorem dX3_yearsGoneBy_36 : decode cX3_yearsGoneBy 36 = .ok (.iload 4, 2) := by decide +kernel
theorem dX3_yearsGoneBy_38 : decode cX3_yearsGoneBy 38 = .ok (.aload_n 0, 1) := by decide +kernel
theorem dX3_yearsGoneBy_39 : decode cX3_yearsGoneBy 39 = .ok (.getfield 19, 3) := by decide +kernel
theorem dX3_yearsGoneBy_42 : decode cX3_yearsGoneBy 42 = .ok (.getfield 67, 3) := by decide +kernel
theorem dX3_yearsGoneBy_45 : decode cX3_yearsGoneBy 45 = .ok (.invokestatic 250, 3) := by decide +kernel
theorem dX3_yearsGoneBy_48 : decode cX3_yearsGoneBy 48 = .ok (.istore 8, 2) := by decide +kernel
theorem dX3_yearsGoneBy_50 : decode cX3_yearsGoneBy 50 = .ok (.iload 4, 2) := by decide +kernel
theorem dX3_yearsGoneBy_52 : decode cX3_yearsGoneBy 52 = .ok (.invokestatic 247, 3) := by decide +kernel
theorem dX3_yearsGoneBy_55 : decode cX3_yearsGoneBy 55 = .ok (.istore 4, 2) := by decide +kernel
theorem dX3_yearsGoneBy_57 : decode cX3_yearsGoneBy 57 = .ok (.iload 4, 2) := by decide +kernel
theorem dX3_yearsGoneBy_59 : decode cX3_yearsGoneBy 59 = .ok (.bipush 8, 2) := by decide +kernel
theorem dX3_yearsGoneBy_61 : decode cX3_yearsGoneBy 61 = .ok (.invokestatic 250, 3) := by decide +kernel
theorem dX3_yearsGoneBy_64 : decode cX3_yearsGoneBy 64 = .ok (.istore 9, 2) := by decide +kernel
theorem dX3_yearsGoneBy_66 : decode cX3_yearsGoneBy 66 = .ok (.aload_n 0, 1) := by decide +kernel
theorem dX3_yearsGoneBy_67 : decode cX3_yearsGoneBy 67 = .ok (.getfield 29, 3) := by decide +kernel
theorem dX3_yearsGoneBy_70 : decode cX3_yearsGoneBy 70 = .ok (.iload 8, 2) := by decide +kernel
theorem dX3_yearsGoneBy_72 : decode cX3_yearsGoneBy 72 = .ok (.iload 9, 2) := by decide +kernel
theorem dX3_yearsGoneBy_74 : decode cX3_yearsGoneBy 74 = .ok (.invokevirtual 111, 3) := by decide +kernel
theorem dX3_yearsGoneBy_77 : decode cX3_yearsGoneBy 77 = .ok (.istore 10, 2) := by decide +kernel
theorem dX3_yearsGoneBy_79 : decode cX3_yearsGoneBy 79 = .ok (.iload 10, 2) := by decide +kernel
theorem dX3_yearsGoneBy_81 : decode cX3_yearsGoneBy 81 = .ok (.iload 9, 2) := by decide +kernel
theorem dX3_yearsGoneBy_83 : decode cX3_yearsGoneBy 83 = .ok (.if_icmp .ne 13, 3) := by decide +kernel
theorem dX3_yearsGoneBy_86 : decode cX3_yearsGoneBy 86 = .ok (.aload_n 0, 1) := by decide +kernel
theorem dX3_yearsGoneBy_87 : decode cX3_yearsGoneBy 87 = .ok (.getfield 29, 3) := by decide +kernel
theorem dX3_yearsGoneBy_90 : decode cX3_yearsGoneBy 90 = .ok (.invokevirtual 253, 3) := by decide +kernel
theorem dX3_yearsGoneBy_93 : decode cX3_yearsGoneBy 93 = .ok (.goto 10, 3) := by decide +kernel
theorem dX3_yearsGoneBy_96 : decode cX3_yearsGoneBy 96 = .ok (.iinc 5 1, 3) := by decide +kernel
theorem dX3_yearsGoneBy_99 : decode cX3_yearsGoneBy 99 = .ok (.iload 10, 2) := by decide +kernel
theorem dX3_yearsGoneBy_101 : decode cX3_yearsGoneBy 101 = .ok (.istore 6, 2) := by decide +kernel
theorem dX3_yearsGoneBy_103 : decode cX3_yearsGoneBy 103 = .ok (.iinc 7 1, 3) := by decide +kernel
theorem dX3_yearsGoneBy_106 : decode cX3_yearsGoneBy 106 = .ok (.goto (-83), 3) := by decide +kernel
theorem dX3_yearsGoneBy_109 : decode cX3_yearsGoneBy 109 = .ok (.iload_n 3, 1) := by decide +kernel
theorem dX3_yearsGoneBy_110 : decode cX3_yearsGoneBy 110 = .ok (.lookupswitch 32 #[(0, 26), (1, 29)], 26) := by decide +kernel
theorem dX3_yearsGoneBy_136 : decode cX3_yearsGoneBy 136 = .ok (.iload 5, 2) := by decide +kernel
theorem dX3_yearsGoneBy_138 : decode cX3_yearsGoneBy 138 = .ok (.ireturn, 1) := by decide +kernel
theorem dX3_yearsGoneBy_139 : decode cX3_yearsGoneBy 139 = .ok (.iload 6, 2) := by decide +kernel
theorem dX3_yearsGoneBy_141 : decode cX3_yearsGoneBy 141 = .ok (.ireturn, 1) := by decide +kernel
theorem dX3_yearsGoneBy_142 : decode cX3_yearsGoneBy 142 = .ok (.iload 4, 2) := by decide +kernel
theorem dX3_yearsGoneBy_144 : decode cX3_yearsGoneBy 144 = .ok (.ireturn, 1) := by decide +kernel
theorem dX3_seedAfter_0 : decode cX3_seedAfter 0 = .ok (.ldc2_w 256, 3) := by decide +kernel
theorem dX3_seedAfter_3 : decode cX3_seedAfter 3 = .ok (.iload_n 0, 1) := by decide +kernel
theorem dX3_seedAfter_4 : decode cX3_seedAfter 4 = .ok (.i2l, 1) := by decide +kernel
theorem dX3_seedAfter_5 : decode cX3_seedAfter 5 = .ok (.lmul, 1) := by decide +kernel
theorem dX3_seedAfter_6 : decode cX3_seedAfter 6 = .ok (.ldc2_w 258, 3) := by decide +kernel
theorem dX3_seedAfter_9 : decode cX3_seedAfter 9 = .ok (.ladd, 1) := by decide +kernel
theorem dX3_seedAfter_10 : decode cX3_seedAfter 10 = .ok (.ldc2_w 260, 3) := by decide +kernel
theorem dX3_seedAfter_13 : decode cX3_seedAfter 13 = .ok (.lrem, 1) := by decide +kernel
theorem dX3_seedAfter_14 : decode cX3_seedAfter 14 = .ok (.l2i, 1) := by decide +kernel
theorem dX3_seedAfter_15 : decode cX3_seedAfter 15 = .ok (.ireturn, 1) := by decide +kernel
theorem dX3_drawn_0 : decode cX3_drawn 0 = .ok (.iload_n 1, 1) := by decide +kernel
theorem dX3_drawn_1 : decode cX3_drawn 1 = .ok (.ifCond .le 13, 3) := by decide +kernel
theorem dX3_drawn_4 : decode cX3_drawn 4 = .ok (.iload_n 0, 1) := by decide +kernel
theorem dX3_drawn_5 : decode cX3_drawn 5 = .ok (.ldc_w 262, 3) := by decide +kernel
theorem dX3_drawn_8 : decode cX3_drawn 8 = .ok (.idiv, 1) := by decide +kernel
theorem dX3_drawn_9 : decode cX3_drawn 9 = .ok (.iload_n 1, 1) := by decide +kernel
theorem dX3_drawn_10 : decode cX3_drawn 10 = .ok (.irem, 1) := by decide +kernel
theorem dX3_drawn_11 : decode cX3_drawn 11 = .ok (.goto 4, 3) := by decide +kernel
theorem dX3_drawn_14 : decode cX3_drawn 14 = .ok (.iconst 0, 1) := by decide +kernel
theorem dX3_drawn_15 : decode cX3_drawn 15 = .ok (.ireturn, 1) := by decide +kernel
theorem dX3_mix_0 : decode cX3_mix 0 = .ok (.ldc2_w 263, 3) := by decide +kernel
theorem dX3_mix_3 : decode cX3_mix 3 = .ok (.lload_n 0, 1) := by decide +kernel
theorem dX3_mix_4 : decode cX3_mix 4 = .ok (.lmul, 1) := by decide +kernel
theorem dX3_mix_5 : decode cX3_mix 5 = .ok (.lload_n 2, 1) := by decide +kernel
theorem dX3_mix_6 : decode cX3_mix 6 = .ok (.ladd, 1) := by decide +kernel
theorem dX3_mix_7 : decode cX3_mix 7 = .ok (.lreturn, 1) := by decide +kernel
theorem dX3_withRook_0 : decode cX3_withRook 0 = .ok (.lload_n 1, 1) := by decide +kernel
theorem dX3_withRook_1 : decode cX3_withRook 1 = .ok (.lstore 4, 2) := by decide +kernel
theorem dX3_withRook_3 : decode cX3_withRook 3 = .ok (.iconst 0, 1) := by decide +kernel
theorem dX3_withRook_4 : decode cX3_withRook 4 = .ok (.istore 6, 2) := by decide +kernel
theorem dX3_withRook_6 : decode cX3_withRook 6 = .ok (.iload 6, 2) := by decide +kernel
theorem dX3_withRook_8 : decode cX3_withRook 8 = .ok (.iconst 3, 1) := by decide +kernel
theorem dX3_withRook_9 : decode cX3_withRook 9 = .ok (.if_icmp .gt 24, 3) := by decide +kernel
theorem dX3_withRook_12 : decode cX3_withRook 12 = .ok (.lload 4, 2) := by decide +kernel
theorem dX3_withRook_14 : decode cX3_withRook 14 = .ok (.aload_n 0, 1) := by decide +kernel
theorem dX3_withRook_15 : decode cX3_withRook 15 = .ok (.iload_n 3, 1) := by decide +kernel
theorem dX3_withRook_16 : decode cX3_withRook 16 = .ok (.iload 6, 2) := by decide +kernel
theorem dX3_withRook_18 : decode cX3_withRook 18 = .ok (.invokevirtual 265, 3) := by decide +kernel
theorem dX3_withRook_21 : decode cX3_withRook 21 = .ok (.i2l, 1) := by decide +kernel
theorem dX3_withRook_22 : decode cX3_withRook 22 = .ok (.invokestatic 188, 3) := by decide +kernel
theorem dX3_withRook_25 : decode cX3_withRook 25 = .ok (.lstore 4, 2) := by decide +kernel
theorem dX3_withRook_27 : decode cX3_withRook 27 = .ok (.iinc 6 1, 3) := by decide +kernel
theorem dX3_withRook_30 : decode cX3_withRook 30 = .ok (.goto (-24), 3) := by decide +kernel
theorem dX3_withRook_33 : decode cX3_withRook 33 = .ok (.bipush 10, 2) := by decide +kernel
theorem dX3_withRook_35 : decode cX3_withRook 35 = .ok (.istore 6, 2) := by decide +kernel
theorem dX3_withRook_37 : decode cX3_withRook 37 = .ok (.iload 6, 2) := by decide +kernel
theorem dX3_withRook_39 : decode cX3_withRook 39 = .ok (.bipush 18, 2) := by decide +kernel
theorem dX3_withRook_41 : decode cX3_withRook 41 = .ok (.if_icmp .ge 24, 3) := by decide +kernel
theorem dX3_withRook_44 : decode cX3_withRook 44 = .ok (.lload 4, 2) := by decide +kernel
theorem dX3_withRook_46 : decode cX3_withRook 46 = .ok (.aload_n 0, 1) := by decide +kernel
theorem dX3_withRook_47 : decode cX3_withRook 47 = .ok (.iload_n 3, 1) := by decide +kernel
theorem dX3_withRook_48 : decode cX3_withRook 48 = .ok (.iload 6, 2) := by decide +kernel
theorem dX3_withRook_50 : decode cX3_withRook 50 = .ok (.invokevirtual 265, 3) := by decide +kernel
theorem dX3_withRook_53 : decode cX3_withRook 53 = .ok (.i2l, 1) := by decide +kernel
theorem dX3_withRook_54 : decode cX3_withRook 54 = .ok (.invokestatic 188, 3) := by decide +kernel
theorem dX3_withRook_57 : decode cX3_withRook 57 = .ok (.lstore 4, 2) := by decide +kernel
theorem dX3_withRook_59 : decode cX3_withRook 59 = .ok (.iinc 6 1, 3) := by decide +kernel
theorem dX3_withRook_62 : decode cX3_withRook 62 = .ok (.goto (-25), 3) := by decide +kernel
theorem dX3_withRook_65 : decode cX3_withRook 65 = .ok (.lload 4, 2) := by decide +kernel
theorem dX3_withRook_67 : decode cX3_withRook 67 = .ok (.lreturn, 1) := by decide +kernel
theorem dX3_withPlace_0 : decode cX3_withPlace 0 = .ok (.lload_n 1, 1) := by decide +kernel
theorem dX3_withPlace_1 : decode cX3_withPlace 1 = .ok (.aload_n 0, 1) := by decide +kernel
theorem dX3_withPlace_2 : decode cX3_withPlace 2 = .ok (.iload_n 3, 1) := by decide +kernel
theorem dX3_withPlace_3 : decode cX3_withPlace 3 = .ok (.invokevirtual 268, 3) := by decide +kernel
theorem dX3_withPlace_6 : decode cX3_withPlace 6 = .ok (.i2l, 1) := by decide +kernel
theorem dX3_withPlace_7 : decode cX3_withPlace 7 = .ok (.invokestatic 188, 3) := by decide +kernel
theorem dX3_withPlace_10 : decode cX3_withPlace 10 = .ok (.lstore 4, 2) := by decide +kernel
theorem dX3_withPlace_12 : decode cX3_withPlace 12 = .ok (.lload 4, 2) := by decide +kernel
theorem dX3_withPlace_14 : decode cX3_withPlace 14 = .ok (.aload_n 0, 1) := by decide +kernel
theorem dX3_withPlace_15 : decode cX3_withPlace 15 = .ok (.iload_n 3, 1) := by decide +kernel
theorem dX3_withPlace_16 : decode cX3_withPlace 16 = .ok (.iconst 0, 1) := by decide +kernel
theorem dX3_withPlace_17 : decode cX3_withPlace 17 = .ok (.invokevirtual 114, 3) := by decide +kernel
theorem dX3_withPlace_20 : decode cX3_withPlace 20 = .ok (.i2l, 1) := by decide +kernel
theorem dX3_withPlace_21 : decode cX3_withPlace 21 = .ok (.invokestatic 188, 3) := by decide +kernel
theorem dX3_withPlace_24 : decode cX3_withPlace 24 = .ok (.lstore 4, 2) := by decide +kernel
theorem dX3_withPlace_26 : decode cX3_withPlace 26 = .ok (.lload 4, 2) := by decide +kernel
theorem dX3_withPlace_28 : decode cX3_withPlace 28 = .ok (.aload_n 0, 1) := by decide +kernel
theorem dX3_withPlace_29 : decode cX3_withPlace 29 = .ok (.iload_n 3, 1) := by decide +kernel
theorem dX3_withPlace_30 : decode cX3_withPlace 30 = .ok (.iconst 5, 1) := by decide +kernel
theorem dX3_withPlace_31 : decode cX3_withPlace 31 = .ok (.invokevirtual 114, 3) := by decide +kernel
theorem dX3_withPlace_34 : decode cX3_withPlace 34 = .ok (.i2l, 1) := by decide +kernel
theorem dX3_withPlace_35 : decode cX3_withPlace 35 = .ok (.invokestatic 188, 3) := by decide +kernel
theorem dX3_withPlace_38 : decode cX3_withPlace 38 = .ok (.lstore 4, 2) := by decide +kernel
theorem dX3_withPlace_40 : decode cX3_withPlace 40 = .ok (.aload_n 0, 1) := by decide +kernel
theorem dX3_withPlace_41 : decode cX3_withPlace 41 = .ok (.iload_n 3, 1) := by decide +kernel
theorem dX3_withPlace_42 : decode cX3_withPlace 42 = .ok (.invokevirtual 148, 3) := by decide +kernel
theorem dX3_withPlace_45 : decode cX3_withPlace 45 = .ok (.lstore 6, 2) := by decide +kernel
theorem dX3_withPlace_47 : decode cX3_withPlace 47 = .ok (.lload 4, 2) := by decide +kernel
theorem dX3_withPlace_49 : decode cX3_withPlace 49 = .ok (.lload 6, 2) := by decide +kernel
theorem dX3_withPlace_51 : decode cX3_withPlace 51 = .ok (.invokestatic 152, 3) := by decide +kernel
theorem dX3_withPlace_54 : decode cX3_withPlace 54 = .ok (.i2l, 1) := by decide +kernel
theorem dX3_withPlace_55 : decode cX3_withPlace 55 = .ok (.invokestatic 188, 3) := by decide +kernel
theorem dX3_withPlace_58 : decode cX3_withPlace 58 = .ok (.lstore 4, 2) := by decide +kernel
theorem dX3_withPlace_60 : decode cX3_withPlace 60 = .ok (.lload 4, 2) := by decide +kernel
theorem dX3_withPlace_62 : decode cX3_withPlace 62 = .ok (.lload 6, 2) := by decide +kernel
theorem dX3_withPlace_64 : decode cX3_withPlace 64 = .ok (.invokestatic 157, 3) := by decide +kernel
theorem dX3_withPlace_67 : decode cX3_withPlace 67 = .ok (.i2l, 1) := by decide +kernel
theorem dX3_withPlace_68 : decode cX3_withPlace 68 = .ok (.invokestatic 188, 3) := by decide +kernel
theorem dX3_withPlace_71 : decode cX3_withPlace 71 = .ok (.lstore 4, 2) := by decide +kernel
theorem dX3_withPlace_73 : decode cX3_withPlace 73 = .ok (.lload 4, 2) := by decide +kernel
theorem dX3_withPlace_75 : decode cX3_withPlace 75 = .ok (.aload_n 0, 1) := by decide +kernel
theorem dX3_withPlace_76 : decode cX3_withPlace 76 = .ok (.iload_n 3, 1) := by decide +kernel
theorem dX3_withPlace_77 : decode cX3_withPlace 77 = .ok (.lload 6, 2) := by decide +kernel
theorem dX3_withPlace_79 : decode cX3_withPlace 79 = .ok (.invokevirtual 160, 3) := by decide +kernel
theorem dX3_withPlace_82 : decode cX3_withPlace 82 = .ok (.i2l, 1) := by decide +kernel
theorem dX3_withPlace_83 : decode cX3_withPlace 83 = .ok (.invokestatic 188, 3) := by decide +kernel
theorem dX3_withPlace_86 : decode cX3_withPlace 86 = .ok (.lreturn, 1) := by decide +kernel
theorem dX4_init_0 : decode cX4_init 0 = .ok (.aload_n 0, 1) := by decide +kernel
theorem dX4_init_1 : decode cX4_init 1 = .ok (.invokespecial 1, 3) := by decide +kernel
theorem dX4_init_4 : decode cX4_init 4 = .ok (.aload_n 0, 1) := by decide +kernel
theorem dX4_init_5 : decode cX4_init 5 = .ok (.bipush 22, 2) := by decide +kernel
theorem dX4_init_7 : decode cX4_init 7 = .ok (.newarray .int, 2) := by decide +kernel
theorem dX4_init_9 : decode cX4_init 9 = .ok (.putfield 7, 3) := by decide +kernel
theorem dX4_init_12 : decode cX4_init 12 = .ok (.aload_n 0, 1) := by decide +kernel
theorem dX4_init_13 : decode cX4_init 13 = .ok (.bipush 12, 2) := by decide +kernel
theorem dX4_init_15 : decode cX4_init 15 = .ok (.newarray .int, 2) := by decide +kernel
theorem dX4_init_17 : decode cX4_init 17 = .ok (.putfield 13, 3) := by decide +kernel
theorem dX4_init_20 : decode cX4_init 20 = .ok (.aload_n 0, 1) := by decide +kernel
theorem dX4_init_21 : decode cX4_init 21 = .ok (.bipush 24, 2) := by decide +kernel
theorem dX4_init_23 : decode cX4_init 23 = .ok (.newarray .int, 2) := by decide +kernel
theorem dX4_init_25 : decode cX4_init 25 = .ok (.putfield 16, 3) := by decide +kernel
theorem dX4_init_28 : decode cX4_init 28 = .ok (.aload_n 0, 1) := by decide +kernel
theorem dX4_init_29 : decode cX4_init 29 = .ok (.bipush 6, 2) := by decide +kernel
theorem dX4_init_31 : decode cX4_init 31 = .ok (.newarray .int, 2) := by decide +kernel
theorem dX4_init_33 : decode cX4_init 33 = .ok (.putfield 19, 3) := by decide +kernel
theorem dX4_init_36 : decode cX4_init 36 = .ok (.aload_n 0, 1) := by decide +kernel
theorem dX4_init_37 : decode cX4_init 37 = .ok (.bipush 6, 2) := by decide +kernel
theorem dX4_init_39 : decode cX4_init 39 = .ok (.newarray .int, 2) := by decide +kernel
theorem dX4_init_41 : decode cX4_init 41 = .ok (.putfield 22, 3) := by decide +kernel
theorem dX4_init_44 : decode cX4_init 44 = .ok (.aload_n 0, 1) := by decide +kernel
theorem dX4_init_45 : decode cX4_init 45 = .ok (.bipush 6, 2) := by decide +kernel
theorem dX4_init_47 : decode cX4_init 47 = .ok (.newarray .int, 2) := by decide +kernel
theorem dX4_init_49 : decode cX4_init 49 = .ok (.putfield 25, 3) := by decide +kernel
theorem dX4_init_52 : decode cX4_init 52 = .ok (.aload_n 0, 1) := by decide +kernel
theorem dX4_init_53 : decode cX4_init 53 = .ok (.bipush 48, 2) := by decide +kernel
theorem dX4_init_55 : decode cX4_init 55 = .ok (.newarray .int, 2) := by decide +kernel
theorem dX4_init_57 : decode cX4_init 57 = .ok (.putfield 28, 3) := by decide +kernel
theorem dX4_init_60 : decode cX4_init 60 = .ok (.aload_n 0, 1) := by decide +kernel
theorem dX4_init_61 : decode cX4_init 61 = .ok (.bipush 6, 2) := by decide +kernel
theorem dX4_init_63 : decode cX4_init 63 = .ok (.newarray .int, 2) := by decide +kernel
theorem dX4_init_65 : decode cX4_init 65 = .ok (.putfield 31, 3) := by decide +kernel
theorem dX4_init_68 : decode cX4_init 68 = .ok (.aload_n 0, 1) := by decide +kernel
theorem dX4_init_69 : decode cX4_init 69 = .ok (.bipush 24, 2) := by decide +kernel
theorem dX4_init_71 : decode cX4_init 71 = .ok (.newarray .int, 2) := by decide +kernel
theorem dX4_init_73 : decode cX4_init 73 = .ok (.putfield 34, 3) := by decide +kernel
theorem dX4_init_76 : decode cX4_init 76 = .ok (.aload_n 0, 1) := by decide +kernel
theorem dX4_init_77 : decode cX4_init 77 = .ok (.bipush 8, 2) := by decide +kernel
theorem dX4_init_79 : decode cX4_init 79 = .ok (.newarray .int, 2) := by decide +kernel
theorem dX4_init_81 : decode cX4_init 81 = .ok (.putfield 37, 3) := by decide +kernel
theorem dX4_init_84 : decode cX4_init 84 = .ok (.aload_n 0, 1) := by decide +kernel
theorem dX4_init_85 : decode cX4_init 85 = .ok (.bipush 24, 2) := by decide +kernel
theorem dX4_init_87 : decode cX4_init 87 = .ok (.newarray .int, 2) := by decide +kernel
theorem dX4_init_89 : decode cX4_init 89 = .ok (.putfield 40, 3) := by decide +kernel
theorem dX4_init_92 : decode cX4_init 92 = .ok (.aload_n 0, 1) := by decide +kernel
theorem dX4_init_93 : decode cX4_init 93 = .ok (.bipush 6, 2) := by decide +kernel
theorem dX4_init_95 : decode cX4_init 95 = .ok (.newarray .int, 2) := by decide +kernel
theorem dX4_init_97 : decode cX4_init 97 = .ok (.putfield 43, 3) := by decide +kernel
theorem dX4_init_100 : decode cX4_init 100 = .ok (.aload_n 0, 1) := by decide +kernel
theorem dX4_init_101 : decode cX4_init 101 = .ok (.bipush 24, 2) := by decide +kernel
theorem dX4_init_103 : decode cX4_init 103 = .ok (.newarray .int, 2) := by decide +kernel
theorem dX4_init_105 : decode cX4_init 105 = .ok (.putfield 46, 3) := by decide +kernel
theorem dX4_init_108 : decode cX4_init 108 = .ok (.aload_n 0, 1) := by decide +kernel
theorem dX4_init_109 : decode cX4_init 109 = .ok (.iconst (-1), 1) := by decide +kernel
theorem dX4_init_110 : decode cX4_init 110 = .ok (.putfield 49, 3) := by decide +kernel
theorem dX4_init_113 : decode cX4_init 113 = .ok (.aload_n 0, 1) := by decide +kernel
theorem dX4_init_114 : decode cX4_init 114 = .ok (.iconst (-1), 1) := by decide +kernel
theorem dX4_init_115 : decode cX4_init 115 = .ok (.putfield 53, 3) := by decide +kernel
theorem dX4_init_118 : decode cX4_init 118 = .ok (.return_, 1) := by decide +kernel
theorem dX4_in_0 : decode cX4_in 0 = .ok (.lload_n 0, 1) := by decide +kernel
theorem dX4_in_1 : decode cX4_in 1 = .ok (.lload_n 2, 1) := by decide +kernel
theorem dX4_in_2 : decode cX4_in 2 = .ok (.lcmp, 1) := by decide +kernel
theorem dX4_in_3 : decode cX4_in 3 = .ok (.ifCond .lt 14, 3) := by decide +kernel
theorem dX4_in_6 : decode cX4_in 6 = .ok (.lload_n 0, 1) := by decide +kernel
theorem dX4_in_7 : decode cX4_in 7 = .ok (.lload 4, 2) := by decide +kernel
theorem dX4_in_9 : decode cX4_in 9 = .ok (.lcmp, 1) := by decide +kernel
theorem dX4_in_10 : decode cX4_in 10 = .ok (.ifCond .gt 7, 3) := by decide +kernel
theorem dX4_in_13 : decode cX4_in 13 = .ok (.iconst 1, 1) := by decide +kernel
theorem dX4_in_14 : decode cX4_in 14 = .ok (.goto 4, 3) := by decide +kernel
theorem dX4_in_17 : decode cX4_in 17 = .ok (.iconst 0, 1) := by decide +kernel
theorem dX4_in_18 : decode cX4_in 18 = .ok (.ireturn, 1) := by decide +kernel
theorem dX4_letter_0 : decode cX4_letter 0 = .ok (.iload_n 1, 1) := by decide +kernel
theorem dX4_letter_1 : decode cX4_letter 1 = .ok (.i2l, 1) := by decide +kernel
theorem dX4_letter_2 : decode cX4_letter 2 = .ok (.lconst 1, 1) := by decide +kernel
theorem dX4_letter_3 : decode cX4_letter 3 = .ok (.ldc2_w 56, 3) := by decide +kernel
theorem dX4_letter_6 : decode cX4_letter 6 = .ok (.invokestatic 58, 3) := by decide +kernel
theorem dX4_letter_9 : decode cX4_letter 9 = .ok (.ifCond .ne 6, 3) := by decide +kernel
theorem dX4_letter_12 : decode cX4_letter 12 = .ok (.bipush (-102), 2) := by decide +kernel
theorem dX4_letter_14 : decode cX4_letter 14 = .ok (.ireturn, 1) := by decide +kernel
theorem dX4_letter_15 : decode cX4_letter 15 = .ok (.aload_n 0, 1) := by decide +kernel
theorem dX4_letter_16 : decode cX4_letter 16 = .ok (.getfield 62, 3) := by decide +kernel
theorem dX4_letter_19 : decode cX4_letter 19 = .ok (.bipush 22, 2) := by decide +kernel
theorem dX4_letter_21 : decode cX4_letter 21 = .ok (.if_icmp .ne 6, 3) := by decide +kernel
theorem dX4_letter_24 : decode cX4_letter 24 = .ok (.bipush (-104), 2) := by decide +kernel
theorem dX4_letter_26 : decode cX4_letter 26 = .ok (.ireturn, 1) := by decide +kernel
theorem dX4_letter_27 : decode cX4_letter 27 = .ok (.aload_n 0, 1) := by decide +kernel
theorem dX4_letter_28 : decode cX4_letter 28 = .ok (.getfield 7, 3) := by decide +kernel
theorem dX4_letter_31 : decode cX4_letter 31 = .ok (.aload_n 0, 1) := by decide +kernel
theorem dX4_letter_32 : decode cX4_letter 32 = .ok (.getfield 62, 3) := by decide +kernel
theorem dX4_letter_35 : decode cX4_letter 35 = .ok (.iload_n 1, 1) := by decide +kernel
theorem dX4_letter_36 : decode cX4_letter 36 = .ok (.iastore, 1) := by decide +kernel
theorem dX4_letter_37 : decode cX4_letter 37 = .ok (.aload_n 0, 1) := by decide +kernel
theorem dX4_letter_38 : decode cX4_letter 38 = .ok (.dup, 1) := by decide +kernel
theorem dX4_letter_39 : decode cX4_letter 39 = .ok (.getfield 62, 3) := by decide +kernel
theorem dX4_letter_42 : decode cX4_letter 42 = .ok (.iconst 1, 1) := by decide +kernel
theorem dX4_letter_43 : decode cX4_letter 43 = .ok (.iadd, 1) := by decide +kernel
theorem dX4_letter_44 : decode cX4_letter 44 = .ok (.putfield 62, 3) := by decide +kernel
theorem dX4_letter_47 : decode cX4_letter 47 = .ok (.aload_n 0, 1) := by decide +kernel
theorem dX4_letter_48 : decode cX4_letter 48 = .ok (.getfield 62, 3) := by decide +kernel
theorem dX4_letter_51 : decode cX4_letter 51 = .ok (.ireturn, 1) := by decide +kernel
theorem dX4_blank_0 : decode cX4_blank 0 = .ok (.aload_n 0, 1) := by decide +kernel
theorem dX4_blank_1 : decode cX4_blank 1 = .ok (.getfield 62, 3) := by decide +kernel
theorem dX4_blank_4 : decode cX4_blank 4 = .ok (.istore_n 1, 1) := by decide +kernel
theorem dX4_blank_5 : decode cX4_blank 5 = .ok (.aload_n 0, 1) := by decide +kernel
theorem dX4_blank_6 : decode cX4_blank 6 = .ok (.iconst 0, 1) := by decide +kernel
theorem dX4_blank_7 : decode cX4_blank 7 = .ok (.putfield 62, 3) := by decide +kernel
theorem dX4_blank_10 : decode cX4_blank 10 = .ok (.iload_n 1, 1) := by decide +kernel
theorem dX4_blank_11 : decode cX4_blank 11 = .ok (.ireturn, 1) := by decide +kernel
theorem dX4_kindBy_0 : decode cX4_kindBy 0 = .ok (.iload_n 0, 1) := by decide +kernel
theorem dX4_kindBy_1 : decode cX4_kindBy 1 = .ok (.bipush 114, 2) := by decide +kernel
theorem dX4_kindBy_3 : decode cX4_kindBy 3 = .ok (.if_icmp .ne 7, 3) := by decide +kernel
theorem dX4_kindBy_6 : decode cX4_kindBy 6 = .ok (.iconst 0, 1) := by decide +kernel
theorem dX4_kindBy_7 : decode cX4_kindBy 7 = .ok (.goto 44, 3) := by decide +kernel
theorem dX4_kindBy_10 : decode cX4_kindBy 10 = .ok (.iload_n 0, 1) := by decide +kernel
theorem dX4_kindBy_11 : decode cX4_kindBy 11 = .ok (.bipush 116, 2) := by decide +kernel
theorem dX4_kindBy_13 : decode cX4_kindBy 13 = .ok (.if_icmp .ne 7, 3) := by decide +kernel
theorem dX4_kindBy_16 : decode cX4_kindBy 16 = .ok (.iconst 1, 1) := by decide +kernel
theorem dX4_kindBy_17 : decode cX4_kindBy 17 = .ok (.goto 34, 3) := by decide +kernel
theorem dX4_kindBy_20 : decode cX4_kindBy 20 = .ok (.iload_n 0, 1) := by decide +kernel
theorem dX4_kindBy_21 : decode cX4_kindBy 21 = .ok (.bipush 111, 2) := by decide +kernel
theorem dX4_kindBy_23 : decode cX4_kindBy 23 = .ok (.if_icmp .ne 7, 3) := by decide +kernel
theorem dX4_kindBy_26 : decode cX4_kindBy 26 = .ok (.iconst 2, 1) := by decide +kernel
theorem dX4_kindBy_27 : decode cX4_kindBy 27 = .ok (.goto 24, 3) := by decide +kernel
theorem dX4_kindBy_30 : decode cX4_kindBy 30 = .ok (.iload_n 0, 1) := by decide +kernel
theorem dX4_kindBy_31 : decode cX4_kindBy 31 = .ok (.bipush 109, 2) := by decide +kernel
theorem dX4_kindBy_33 : decode cX4_kindBy 33 = .ok (.if_icmp .ne 7, 3) := by decide +kernel
theorem dX4_kindBy_36 : decode cX4_kindBy 36 = .ok (.iconst 3, 1) := by decide +kernel
theorem dX4_kindBy_37 : decode cX4_kindBy 37 = .ok (.goto 14, 3) := by decide +kernel
theorem dX4_kindBy_40 : decode cX4_kindBy 40 = .ok (.iload_n 0, 1) := by decide +kernel
theorem dX4_kindBy_41 : decode cX4_kindBy 41 = .ok (.bipush 101, 2) := by decide +kernel
theorem dX4_kindBy_43 : decode cX4_kindBy 43 = .ok (.if_icmp .ne 7, 3) := by decide +kernel
theorem dX4_kindBy_46 : decode cX4_kindBy 46 = .ok (.iconst 4, 1) := by decide +kernel
theorem dX4_kindBy_47 : decode cX4_kindBy 47 = .ok (.goto 4, 3) := by decide +kernel
theorem dX4_kindBy_50 : decode cX4_kindBy 50 = .ok (.iconst (-1), 1) := by decide +kernel
theorem dX4_kindBy_51 : decode cX4_kindBy 51 = .ok (.ireturn, 1) := by decide +kernel
theorem dX4_go_0 : decode cX4_go 0 = .ok (.iload_n 1, 1) := by decide +kernel
theorem dX4_go_1 : decode cX4_go 1 = .ok (.bipush 48, 2) := by decide +kernel
theorem dX4_go_3 : decode cX4_go 3 = .ok (.isub, 1) := by decide +kernel
theorem dX4_go_4 : decode cX4_go 4 = .ok (.istore_n 2, 1) := by decide +kernel
theorem dX4_go_5 : decode cX4_go 5 = .ok (.aload_n 0, 1) := by decide +kernel
theorem dX4_go_6 : decode cX4_go 6 = .ok (.getfield 65, 3) := by decide +kernel
theorem dX4_go_9 : decode cX4_go 9 = .ok (.istore_n 3, 1) := by decide +kernel
theorem dX4_go_10 : decode cX4_go 10 = .ok (.aload_n 0, 1) := by decide +kernel
theorem dX4_go_11 : decode cX4_go 11 = .ok (.dup, 1) := by decide +kernel
theorem dX4_go_12 : decode cX4_go 12 = .ok (.getfield 65, 3) := by decide +kernel
theorem dX4_go_15 : decode cX4_go 15 = .ok (.iconst 1, 1) := by decide +kernel
theorem dX4_go_16 : decode cX4_go 16 = .ok (.iadd, 1) := by decide +kernel
theorem dX4_go_17 : decode cX4_go 17 = .ok (.putfield 65, 3) := by decide +kernel
theorem dX4_go_20 : decode cX4_go 20 = .ok (.iload_n 3, 1) := by decide +kernel
theorem dX4_go_21 : decode cX4_go 21 = .ok (.ifCond .ne 32, 3) := by decide +kernel
theorem dX4_go_24 : decode cX4_go 24 = .ok (.aload_n 0, 1) := by decide +kernel
theorem dX4_go_25 : decode cX4_go 25 = .ok (.getfield 13, 3) := by decide +kernel
theorem dX4_go_28 : decode cX4_go 28 = .ok (.iconst 2, 1) := by decide +kernel
theorem dX4_go_29 : decode cX4_go 29 = .ok (.aload_n 0, 1) := by decide +kernel
theorem dX4_go_30 : decode cX4_go 30 = .ok (.getfield 68, 3) := by decide +kernel
theorem dX4_go_33 : decode cX4_go 33 = .ok (.imul, 1) := by decide +kernel
theorem dX4_go_34 : decode cX4_go 34 = .ok (.iload_n 1, 1) := by decide +kernel
theorem dX4_go_35 : decode cX4_go 35 = .ok (.invokestatic 71, 3) := by decide +kernel
theorem dX4_go_38 : decode cX4_go 38 = .ok (.iastore, 1) := by decide +kernel
theorem dX4_go_39 : decode cX4_go 39 = .ok (.iload_n 1, 1) := by decide +kernel
theorem dX4_go_40 : decode cX4_go 40 = .ok (.invokestatic 71, 3) := by decide +kernel
theorem dX4_go_43 : decode cX4_go 43 = .ok (.iconst (-1), 1) := by decide +kernel
theorem dX4_go_44 : decode cX4_go 44 = .ok (.if_icmp .eq 7, 3) := by decide +kernel
theorem dX4_go_47 : decode cX4_go 47 = .ok (.iconst 1, 1) := by decide +kernel
theorem dX4_go_48 : decode cX4_go 48 = .ok (.goto 4, 3) := by decide +kernel
theorem dX4_go_51 : decode cX4_go 51 = .ok (.iconst 0, 1) := by decide +kernel
theorem dX4_go_52 : decode cX4_go 52 = .ok (.ireturn, 1) := by decide +kernel
theorem dX4_go_53 : decode cX4_go 53 = .ok (.iload_n 3, 1) := by decide +kernel
theorem dX4_go_54 : decode cX4_go 54 = .ok (.iconst 1, 1) := by decide +kernel
theorem dX4_go_55 : decode cX4_go 55 = .ok (.if_icmp .ne 37, 3) := by decide +kernel
theorem dX4_go_58 : decode cX4_go 58 = .ok (.aload_n 0, 1) := by decide +kernel
theorem dX4_go_59 : decode cX4_go 59 = .ok (.getfield 13, 3) := by decide +kernel
theorem dX4_go_62 : decode cX4_go 62 = .ok (.iconst 2, 1) := by decide +kernel
theorem dX4_go_63 : decode cX4_go 63 = .ok (.aload_n 0, 1) := by decide +kernel
theorem dX4_go_64 : decode cX4_go 64 = .ok (.getfield 68, 3) := by decide +kernel
theorem dX4_go_67 : decode cX4_go 67 = .ok (.imul, 1) := by decide +kernel
theorem dX4_go_68 : decode cX4_go 68 = .ok (.iconst 1, 1) := by decide +kernel
theorem dX4_go_69 : decode cX4_go 69 = .ok (.iadd, 1) := by decide +kernel
theorem dX4_go_70 : decode cX4_go 70 = .ok (.iload_n 2, 1) := by decide +kernel
theorem dX4_go_71 : decode cX4_go 71 = .ok (.iastore, 1) := by decide +kernel
theorem dX4_go_72 : decode cX4_go 72 = .ok (.aload_n 0, 1) := by decide +kernel
theorem dX4_go_73 : decode cX4_go 73 = .ok (.dup, 1) := by decide +kernel
theorem dX4_go_74 : decode cX4_go 74 = .ok (.getfield 68, 3) := by decide +kernel
theorem dX4_go_77 : decode cX4_go 77 = .ok (.iconst 1, 1) := by decide +kernel
theorem dX4_go_78 : decode cX4_go 78 = .ok (.iadd, 1) := by decide +kernel
theorem dX4_go_79 : decode cX4_go 79 = .ok (.putfield 68, 3) := by decide +kernel
theorem dX4_go_82 : decode cX4_go 82 = .ok (.iload_n 2, 1) := by decide +kernel
theorem dX4_go_83 : decode cX4_go 83 = .ok (.i2l, 1) := by decide +kernel
theorem dX4_go_84 : decode cX4_go 84 = .ok (.lconst 0, 1) := by decide +kernel
theorem dX4_go_85 : decode cX4_go 85 = .ok (.ldc2_w 75, 3) := by decide +kernel
theorem dX4_go_88 : decode cX4_go 88 = .ok (.invokestatic 58, 3) := by decide +kernel
theorem dX4_go_91 : decode cX4_go 91 = .ok (.ireturn, 1) := by decide +kernel
theorem dX4_go_92 : decode cX4_go 92 = .ok (.iload_n 3, 1) := by decide +kernel
theorem dX4_go_93 : decode cX4_go 93 = .ok (.iconst 2, 1) := by decide +kernel
theorem dX4_go_94 : decode cX4_go 94 = .ok (.if_icmp .ne 61, 3) := by decide +kernel
theorem dX4_go_97 : decode cX4_go 97 = .ok (.aload_n 0, 1) := by decide +kernel
theorem dX4_go_98 : decode cX4_go 98 = .ok (.iload_n 1, 1) := by decide +kernel
theorem dX4_go_99 : decode cX4_go 99 = .ok (.bipush 44, 2) := by decide +kernel
theorem dX4_go_101 : decode cX4_go 101 = .ok (.if_icmp .ne 7, 3) := by decide +kernel
theorem dX4_go_104 : decode cX4_go 104 = .ok (.iconst 0, 1) := by decide +kernel
theorem dX4_go_105 : decode cX4_go 105 = .ok (.goto 4, 3) := by decide +kernel
theorem dX4_go_108 : decode cX4_go 108 = .ok (.iconst 3, 1) := by decide +kernel
theorem dX4_go_109 : decode cX4_go 109 = .ok (.putfield 65, 3) := by decide +kernel
theorem dX4_go_112 : decode cX4_go 112 = .ok (.iload_n 1, 1) := by decide +kernel
theorem dX4_go_113 : decode cX4_go 113 = .ok (.bipush 44, 2) := by decide +kernel
theorem dX4_go_115 : decode cX4_go 115 = .ok (.if_icmp .ne 20, 3) := by decide +kernel
theorem dX4_go_118 : decode cX4_go 118 = .ok (.aload_n 0, 1) := by decide +kernel
theorem dX4_go_119 : decode cX4_go 119 = .ok (.getfield 68, 3) := by decide +kernel
theorem dX4_go_122 : decode cX4_go 122 = .ok (.bipush 6, 2) := by decide +kernel
theorem dX4_go_124 : decode cX4_go 124 = .ok (.if_icmp .ge 7, 3) := by decide +kernel
theorem dX4_go_127 : decode cX4_go 127 = .ok (.iconst 1, 1) := by decide +kernel
theorem dX4_go_128 : decode cX4_go 128 = .ok (.goto 26, 3) := by decide +kernel
theorem dX4_go_131 : decode cX4_go 131 = .ok (.iconst 0, 1) := by decide +kernel
theorem dX4_go_132 : decode cX4_go 132 = .ok (.goto 22, 3) := by decide +kernel
theorem dX4_go_135 : decode cX4_go 135 = .ok (.iload_n 1, 1) := by decide +kernel
theorem dX4_go_136 : decode cX4_go 136 = .ok (.bipush 59, 2) := by decide +kernel
theorem dX4_go_138 : decode cX4_go 138 = .ok (.if_icmp .ne 15, 3) := by decide +kernel
theorem dX4_go_141 : decode cX4_go 141 = .ok (.aload_n 0, 1) := by decide +kernel
theorem dX4_go_142 : decode cX4_go 142 = .ok (.getfield 68, 3) := by decide +kernel
theorem dX4_go_145 : decode cX4_go 145 = .ok (.iconst 2, 1) := by decide +kernel
theorem dX4_go_146 : decode cX4_go 146 = .ok (.if_icmp .le 7, 3) := by decide +kernel
theorem dX4_go_149 : decode cX4_go 149 = .ok (.iconst 1, 1) := by decide +kernel
theorem dX4_go_150 : decode cX4_go 150 = .ok (.goto 4, 3) := by decide +kernel
theorem dX4_go_153 : decode cX4_go 153 = .ok (.iconst 0, 1) := by decide +kernel
theorem dX4_go_154 : decode cX4_go 154 = .ok (.ireturn, 1) := by decide +kernel
theorem dX4_go_155 : decode cX4_go 155 = .ok (.aload_n 0, 1) := by decide +kernel
theorem dX4_go_156 : decode cX4_go 156 = .ok (.iload_n 2, 1) := by decide +kernel
theorem dX4_go_157 : decode cX4_go 157 = .ok (.putfield 77, 3) := by decide +kernel
theorem dX4_go_160 : decode cX4_go 160 = .ok (.iload_n 3, 1) := by decide +kernel
theorem dX4_go_161 : decode cX4_go 161 = .ok (.iconst 3, 1) := by decide +kernel
theorem dX4_go_162 : decode cX4_go 162 = .ok (.if_icmp .ne 17, 3) := by decide +kernel
theorem dX4_go_165 : decode cX4_go 165 = .ok (.iload_n 2, 1) := by decide +kernel
theorem dX4_go_166 : decode cX4_go 166 = .ok (.i2l, 1) := by decide +kernel
theorem dX4_go_167 : decode cX4_go 167 = .ok (.lconst 0, 1) := by decide +kernel
theorem dX4_go_168 : decode cX4_go 168 = .ok (.lconst 1, 1) := by decide +kernel
theorem dX4_go_169 : decode cX4_go 169 = .ok (.invokestatic 58, 3) := by decide +kernel
theorem dX4_go_172 : decode cX4_go 172 = .ok (.ifCond .eq 7, 3) := by decide +kernel
theorem dX4_go_175 : decode cX4_go 175 = .ok (.iconst 1, 1) := by decide +kernel
theorem dX4_go_176 : decode cX4_go 176 = .ok (.goto 4, 3) := by decide +kernel
theorem dX4_go_179 : decode cX4_go 179 = .ok (.iconst 0, 1) := by decide +kernel
theorem dX4_go_180 : decode cX4_go 180 = .ok (.ireturn, 1) := by decide +kernel
theorem dX4_faultOf_0 : decode cX4_faultOf 0 = .ok (.aload_n 0, 1) := by decide +kernel
theorem dX4_faultOf_1 : decode cX4_faultOf 1 = .ok (.iconst 0, 1) := by decide +kernel
theorem dX4_faultOf_2 : decode cX4_faultOf 2 = .ok (.putfield 68, 3) := by decide +kernel
theorem dX4_faultOf_5 : decode cX4_faultOf 5 = .ok (.aload_n 0, 1) := by decide +kernel
theorem dX4_faultOf_6 : decode cX4_faultOf 6 = .ok (.iconst 0, 1) := by decide +kernel
theorem dX4_faultOf_7 : decode cX4_faultOf 7 = .ok (.putfield 65, 3) := by decide +kernel
theorem dX4_faultOf_10 : decode cX4_faultOf 10 = .ok (.iconst 0, 1) := by decide +kernel
theorem dX4_faultOf_11 : decode cX4_faultOf 11 = .ok (.istore_n 1, 1) := by decide +kernel
theorem dX4_faultOf_12 : decode cX4_faultOf 12 = .ok (.iload_n 1, 1) := by decide +kernel
theorem dX4_faultOf_13 : decode cX4_faultOf 13 = .ok (.aload_n 0, 1) := by decide +kernel
theorem dX4_faultOf_14 : decode cX4_faultOf 14 = .ok (.getfield 62, 3) := by decide +kernel
theorem dX4_faultOf_17 : decode cX4_faultOf 17 = .ok (.if_icmp .ge 22, 3) := by decide +kernel
theorem dX4_faultOf_20 : decode cX4_faultOf 20 = .ok (.aload_n 0, 1) := by decide +kernel
theorem dX4_faultOf_21 : decode cX4_faultOf 21 = .ok (.aload_n 0, 1) := by decide +kernel
theorem dX4_faultOf_22 : decode cX4_faultOf 22 = .ok (.getfield 7, 3) := by decide +kernel
theorem dX4_faultOf_25 : decode cX4_faultOf 25 = .ok (.iload_n 1, 1) := by decide +kernel
theorem dX4_faultOf_26 : decode cX4_faultOf 26 = .ok (.iaload, 1) := by decide +kernel
theorem dX4_faultOf_27 : decode cX4_faultOf 27 = .ok (.invokevirtual 80, 3) := by decide +kernel
theorem dX4_faultOf_30 : decode cX4_faultOf 30 = .ok (.ifCond .eq 9, 3) := by decide +kernel
theorem dX4_faultOf_33 : decode cX4_faultOf 33 = .ok (.iinc 1 1, 3) := by decide +kernel
theorem dX4_faultOf_36 : decode cX4_faultOf 36 = .ok (.goto (-24), 3) := by decide +kernel
theorem dX4_faultOf_39 : decode cX4_faultOf 39 = .ok (.iload_n 1, 1) := by decide +kernel
theorem dX4_faultOf_40 : decode cX4_faultOf 40 = .ok (.ireturn, 1) := by decide +kernel
theorem dX4_fault_0 : decode cX4_fault 0 = .ok (.aload_n 0, 1) := by decide +kernel
theorem dX4_fault_1 : decode cX4_fault 1 = .ok (.invokevirtual 84, 3) := by decide +kernel
theorem dX4_fault_4 : decode cX4_fault 4 = .ok (.ireturn, 1) := by decide +kernel
theorem dX4_ring_0 : decode cX4_ring 0 = .ok (.aload_n 0, 1) := by decide +kernel
theorem dX4_ring_1 : decode cX4_ring 1 = .ok (.invokevirtual 84, 3) := by decide +kernel
theorem dX4_ring_4 : decode cX4_ring 4 = .ok (.aload_n 0, 1) := by decide +kernel
theorem dX4_ring_5 : decode cX4_ring 5 = .ok (.getfield 62, 3) := by decide +kernel
theorem dX4_ring_8 : decode cX4_ring 8 = .ok (.if_icmp .lt 11, 3) := by decide +kernel
theorem dX4_ring_11 : decode cX4_ring 11 = .ok (.aload_n 0, 1) := by decide +kernel
theorem dX4_ring_12 : decode cX4_ring 12 = .ok (.getfield 65, 3) := by decide +kernel
theorem dX4_ring_15 : decode cX4_ring 15 = .ok (.iconst 4, 1) := by decide +kernel
theorem dX4_ring_16 : decode cX4_ring 16 = .ok (.if_icmp .eq 6, 3) := by decide +kernel
theorem dX4_ring_19 : decode cX4_ring 19 = .ok (.bipush (-103), 2) := by decide +kernel
theorem dX4_ring_21 : decode cX4_ring 21 = .ok (.ireturn, 1) := by decide +kernel
theorem dX4_ring_22 : decode cX4_ring 22 = .ok (.iconst 0, 1) := by decide +kernel
theorem dX4_ring_23 : decode cX4_ring 23 = .ok (.istore_n 1, 1) := by decide +kernel
theorem dX4_ring_24 : decode cX4_ring 24 = .ok (.iload_n 1, 1) := by decide +kernel
theorem dX4_ring_25 : decode cX4_ring 25 = .ok (.aload_n 0, 1) := by decide +kernel
theorem dX4_ring_26 : decode cX4_ring 26 = .ok (.getfield 68, 3) := by decide +kernel
theorem dX4_ring_29 : decode cX4_ring 29 = .ok (.if_icmp .ge 74, 3) := by decide +kernel
theorem dX4_ring_32 : decode cX4_ring 32 = .ok (.aload_n 0, 1) := by decide +kernel
theorem dX4_ring_33 : decode cX4_ring 33 = .ok (.getfield 16, 3) := by decide +kernel
theorem dX4_ring_36 : decode cX4_ring 36 = .ok (.iconst 4, 1) := by decide +kernel
theorem dX4_ring_37 : decode cX4_ring 37 = .ok (.iload_n 1, 1) := by decide +kernel
theorem dX4_ring_38 : decode cX4_ring 38 = .ok (.imul, 1) := by decide +kernel
theorem dX4_ring_39 : decode cX4_ring 39 = .ok (.aload_n 0, 1) := by decide +kernel
theorem dX4_ring_40 : decode cX4_ring 40 = .ok (.getfield 13, 3) := by decide +kernel
theorem dX4_ring_43 : decode cX4_ring 43 = .ok (.iconst 2, 1) := by decide +kernel
theorem dX4_ring_44 : decode cX4_ring 44 = .ok (.iload_n 1, 1) := by decide +kernel
theorem dX4_ring_45 : decode cX4_ring 45 = .ok (.imul, 1) := by decide +kernel
theorem dX4_ring_46 : decode cX4_ring 46 = .ok (.iaload, 1) := by decide +kernel
theorem dX4_ring_47 : decode cX4_ring 47 = .ok (.iastore, 1) := by decide +kernel
theorem dX4_ring_48 : decode cX4_ring 48 = .ok (.aload_n 0, 1) := by decide +kernel
theorem dX4_ring_49 : decode cX4_ring 49 = .ok (.getfield 16, 3) := by decide +kernel
theorem dX4_ring_52 : decode cX4_ring 52 = .ok (.iconst 4, 1) := by decide +kernel
theorem dX4_ring_53 : decode cX4_ring 53 = .ok (.iload_n 1, 1) := by decide +kernel
theorem dX4_ring_54 : decode cX4_ring 54 = .ok (.imul, 1) := by decide +kernel
theorem dX4_ring_55 : decode cX4_ring 55 = .ok (.iconst 1, 1) := by decide +kernel
theorem dX4_ring_56 : decode cX4_ring 56 = .ok (.iadd, 1) := by decide +kernel
theorem dX4_ring_57 : decode cX4_ring 57 = .ok (.aload_n 0, 1) := by decide +kernel
theorem dX4_ring_58 : decode cX4_ring 58 = .ok (.getfield 13, 3) := by decide +kernel
theorem dX4_ring_61 : decode cX4_ring 61 = .ok (.iconst 2, 1) := by decide +kernel
theorem dX4_ring_62 : decode cX4_ring 62 = .ok (.iload_n 1, 1) := by decide +kernel
theorem dX4_ring_63 : decode cX4_ring 63 = .ok (.imul, 1) := by decide +kernel
theorem dX4_ring_64 : decode cX4_ring 64 = .ok (.iconst 1, 1) := by decide +kernel
theorem dX4_ring_65 : decode cX4_ring 65 = .ok (.iadd, 1) := by decide +kernel
theorem dX4_ring_66 : decode cX4_ring 66 = .ok (.iaload, 1) := by decide +kernel
theorem dX4_ring_67 : decode cX4_ring 67 = .ok (.iastore, 1) := by decide +kernel
theorem dX4_ring_68 : decode cX4_ring 68 = .ok (.aload_n 0, 1) := by decide +kernel
theorem dX4_ring_69 : decode cX4_ring 69 = .ok (.getfield 16, 3) := by decide +kernel
theorem dX4_ring_72 : decode cX4_ring 72 = .ok (.iconst 4, 1) := by decide +kernel
theorem dX4_ring_73 : decode cX4_ring 73 = .ok (.iload_n 1, 1) := by decide +kernel
theorem dX4_ring_74 : decode cX4_ring 74 = .ok (.imul, 1) := by decide +kernel
theorem dX4_ring_75 : decode cX4_ring 75 = .ok (.iconst 2, 1) := by decide +kernel
theorem dX4_ring_76 : decode cX4_ring 76 = .ok (.iadd, 1) := by decide +kernel
theorem dX4_ring_77 : decode cX4_ring 77 = .ok (.iload_n 1, 1) := by decide +kernel
theorem dX4_ring_78 : decode cX4_ring 78 = .ok (.iastore, 1) := by decide +kernel
theorem dX4_ring_79 : decode cX4_ring 79 = .ok (.aload_n 0, 1) := by decide +kernel
theorem dX4_ring_80 : decode cX4_ring 80 = .ok (.getfield 16, 3) := by decide +kernel
theorem dX4_ring_83 : decode cX4_ring 83 = .ok (.iconst 4, 1) := by decide +kernel
theorem dX4_ring_84 : decode cX4_ring 84 = .ok (.iload_n 1, 1) := by decide +kernel
theorem dX4_ring_85 : decode cX4_ring 85 = .ok (.imul, 1) := by decide +kernel
theorem dX4_ring_86 : decode cX4_ring 86 = .ok (.iconst 3, 1) := by decide +kernel
theorem dX4_ring_87 : decode cX4_ring 87 = .ok (.iadd, 1) := by decide +kernel
theorem dX4_ring_88 : decode cX4_ring 88 = .ok (.iconst 0, 1) := by decide +kernel
theorem dX4_ring_89 : decode cX4_ring 89 = .ok (.iastore, 1) := by decide +kernel
theorem dX4_ring_90 : decode cX4_ring 90 = .ok (.aload_n 0, 1) := by decide +kernel
theorem dX4_ring_91 : decode cX4_ring 91 = .ok (.getfield 19, 3) := by decide +kernel
theorem dX4_ring_94 : decode cX4_ring 94 = .ok (.iload_n 1, 1) := by decide +kernel
theorem dX4_ring_95 : decode cX4_ring 95 = .ok (.iload_n 1, 1) := by decide +kernel
theorem dX4_ring_96 : decode cX4_ring 96 = .ok (.iastore, 1) := by decide +kernel
theorem dX4_ring_97 : decode cX4_ring 97 = .ok (.iinc 1 1, 3) := by decide +kernel
theorem dX4_ring_100 : decode cX4_ring 100 = .ok (.goto (-76), 3) := by decide +kernel
theorem dX4_ring_103 : decode cX4_ring 103 = .ok (.aload_n 0, 1) := by decide +kernel
theorem dX4_ring_104 : decode cX4_ring 104 = .ok (.aload_n 0, 1) := by decide +kernel
theorem dX4_ring_105 : decode cX4_ring 105 = .ok (.getfield 68, 3) := by decide +kernel
theorem dX4_ring_108 : decode cX4_ring 108 = .ok (.putfield 88, 3) := by decide +kernel
theorem dX4_ring_111 : decode cX4_ring 111 = .ok (.aload_n 0, 1) := by decide +kernel
theorem dX4_ring_112 : decode cX4_ring 112 = .ok (.aload_n 0, 1) := by decide +kernel
theorem dX4_ring_113 : decode cX4_ring 113 = .ok (.getfield 77, 3) := by decide +kernel
theorem dX4_ring_116 : decode cX4_ring 116 = .ok (.putfield 91, 3) := by decide +kernel
theorem dX4_ring_119 : decode cX4_ring 119 = .ok (.aload_n 0, 1) := by decide +kernel
theorem dX4_ring_120 : decode cX4_ring 120 = .ok (.iconst 0, 1) := by decide +kernel
theorem dX4_ring_121 : decode cX4_ring 121 = .ok (.putfield 94, 3) := by decide +kernel
theorem dX4_ring_124 : decode cX4_ring 124 = .ok (.aload_n 0, 1) := by decide +kernel
theorem dX4_ring_125 : decode cX4_ring 125 = .ok (.iconst (-1), 1) := by decide +kernel
theorem dX4_ring_126 : decode cX4_ring 126 = .ok (.putfield 53, 3) := by decide +kernel
theorem dX4_ring_129 : decode cX4_ring 129 = .ok (.aload_n 0, 1) := by decide +kernel
theorem dX4_ring_130 : decode cX4_ring 130 = .ok (.iconst 0, 1) := by decide +kernel
theorem dX4_ring_131 : decode cX4_ring 131 = .ok (.putfield 97, 3) := by decide +kernel
theorem dX4_ring_134 : decode cX4_ring 134 = .ok (.aload_n 0, 1) := by decide +kernel
theorem dX4_ring_135 : decode cX4_ring 135 = .ok (.dup, 1) := by decide +kernel
theorem dX4_ring_136 : decode cX4_ring 136 = .ok (.getfield 100, 3) := by decide +kernel
theorem dX4_ring_139 : decode cX4_ring 139 = .ok (.iconst 1, 1) := by decide +kernel
theorem dX4_ring_140 : decode cX4_ring 140 = .ok (.iadd, 1) := by decide +kernel
theorem dX4_ring_141 : decode cX4_ring 141 = .ok (.putfield 100, 3) := by decide +kernel
theorem dX4_ring_144 : decode cX4_ring 144 = .ok (.aload_n 0, 1) := by decide +kernel
theorem dX4_ring_145 : decode cX4_ring 145 = .ok (.iconst 0, 1) := by decide +kernel
theorem dX4_ring_146 : decode cX4_ring 146 = .ok (.putfield 62, 3) := by decide +kernel
theorem dX4_ring_149 : decode cX4_ring 149 = .ok (.aload_n 0, 1) := by decide +kernel
theorem dX4_ring_150 : decode cX4_ring 150 = .ok (.getfield 88, 3) := by decide +kernel
theorem dX4_ring_153 : decode cX4_ring 153 = .ok (.ireturn, 1) := by decide +kernel
theorem dX4_lacks_0 : decode cX4_lacks 0 = .ok (.aload_n 0, 1) := by decide +kernel
theorem dX4_lacks_1 : decode cX4_lacks 1 = .ok (.getfield 88, 3) := by decide +kernel
theorem dX4_lacks_4 : decode cX4_lacks 4 = .ok (.ifCond .ne 7, 3) := by decide +kernel
theorem dX4_lacks_7 : decode cX4_lacks 7 = .ok (.iconst 1, 1) := by decide +kernel
theorem dX4_lacks_8 : decode cX4_lacks 8 = .ok (.goto 4, 3) := by decide +kernel
theorem dX4_lacks_11 : decode cX4_lacks 11 = .ok (.iconst 0, 1) := by decide +kernel
theorem dX4_lacks_12 : decode cX4_lacks 12 = .ok (.ireturn, 1) := by decide +kernel
theorem dX4_isRook_0 : decode cX4_isRook 0 = .ok (.iload_n 1, 1) := by decide +kernel
theorem dX4_isRook_1 : decode cX4_isRook 1 = .ok (.i2l, 1) := by decide +kernel
theorem dX4_isRook_2 : decode cX4_isRook 2 = .ok (.lconst 0, 1) := by decide +kernel
theorem dX4_isRook_3 : decode cX4_isRook 3 = .ok (.aload_n 0, 1) := by decide +kernel
theorem dX4_isRook_4 : decode cX4_isRook 4 = .ok (.getfield 88, 3) := by decide +kernel
theorem dX4_isRook_7 : decode cX4_isRook 7 = .ok (.iconst 1, 1) := by decide +kernel
theorem dX4_isRook_8 : decode cX4_isRook 8 = .ok (.isub, 1) := by decide +kernel
theorem dX4_isRook_9 : decode cX4_isRook 9 = .ok (.i2l, 1) := by decide +kernel
theorem dX4_isRook_10 : decode cX4_isRook 10 = .ok (.invokestatic 58, 3) := by decide +kernel
theorem dX4_isRook_13 : decode cX4_isRook 13 = .ok (.ireturn, 1) := by decide +kernel
theorem dX4_isWord_0 : decode cX4_isWord 0 = .ok (.iload_n 0, 1) := by decide +kernel
theorem dX4_isWord_1 : decode cX4_isWord 1 = .ok (.i2l, 1) := by decide +kernel
theorem dX4_isWord_2 : decode cX4_isWord 2 = .ok (.lconst 0, 1) := by decide +kernel
theorem dX4_isWord_3 : decode cX4_isWord 3 = .ok (.ldc2_w 75, 3) := by decide +kernel
theorem dX4_isWord_6 : decode cX4_isWord 6 = .ok (.invokestatic 58, 3) := by decide +kernel
theorem dX4_isWord_9 : decode cX4_isWord 9 = .ok (.ireturn, 1) := by decide +kernel
theorem dX4_makes_0 : decode cX4_makes 0 = .ok (.iload_n 0, 1) := by decide +kernel
theorem dX4_makes_1 : decode cX4_makes 1 = .ok (.iconst 1, 1) := by decide +kernel
theorem dX4_makes_2 : decode cX4_makes 2 = .ok (.if_icmp .ne 9, 3) := by decide +kernel
theorem dX4_makes_5 : decode cX4_makes 5 = .ok (.iload_n 3, 1) := by decide +kernel
theorem dX4_makes_6 : decode cX4_makes 6 = .ok (.iload_n 1, 1) := by decide +kernel
theorem dX4_makes_7 : decode cX4_makes 7 = .ok (.ixor, 1) := by decide +kernel
theorem dX4_makes_8 : decode cX4_makes 8 = .ok (.goto 38, 3) := by decide +kernel
theorem dX4_makes_11 : decode cX4_makes 11 = .ok (.iload_n 0, 1) := by decide +kernel
theorem dX4_makes_12 : decode cX4_makes 12 = .ok (.iconst 2, 1) := by decide +kernel
theorem dX4_makes_13 : decode cX4_makes 13 = .ok (.if_icmp .eq 8, 3) := by decide +kernel
theorem dX4_makes_16 : decode cX4_makes 16 = .ok (.iload_n 0, 1) := by decide +kernel
theorem dX4_makes_17 : decode cX4_makes 17 = .ok (.iconst 4, 1) := by decide +kernel
theorem dX4_makes_18 : decode cX4_makes 18 = .ok (.if_icmp .ne 27, 3) := by decide +kernel
theorem dX4_makes_21 : decode cX4_makes 21 = .ok (.iload_n 3, 1) := by decide +kernel
theorem dX4_makes_22 : decode cX4_makes 22 = .ok (.iload_n 1, 1) := by decide +kernel
theorem dX4_makes_23 : decode cX4_makes 23 = .ok (.iadd, 1) := by decide +kernel
theorem dX4_makes_24 : decode cX4_makes 24 = .ok (.iload_n 1, 1) := by decide +kernel
theorem dX4_makes_25 : decode cX4_makes 25 = .ok (.iload_n 2, 1) := by decide +kernel
theorem dX4_makes_26 : decode cX4_makes 26 = .ok (.imul, 1) := by decide +kernel
theorem dX4_makes_27 : decode cX4_makes 27 = .ok (.iadd, 1) := by decide +kernel
theorem dX4_makes_28 : decode cX4_makes 28 = .ok (.iload_n 0, 1) := by decide +kernel
theorem dX4_makes_29 : decode cX4_makes 29 = .ok (.iconst 4, 1) := by decide +kernel
theorem dX4_makes_30 : decode cX4_makes 30 = .ok (.if_icmp .ne 7, 3) := by decide +kernel
theorem dX4_makes_33 : decode cX4_makes 33 = .ok (.iconst 1, 1) := by decide +kernel
theorem dX4_makes_34 : decode cX4_makes 34 = .ok (.goto 4, 3) := by decide +kernel
theorem dX4_makes_37 : decode cX4_makes 37 = .ok (.iconst 0, 1) := by decide +kernel
theorem dX4_makes_38 : decode cX4_makes 38 = .ok (.iadd, 1) := by decide +kernel
theorem dX4_makes_39 : decode cX4_makes 39 = .ok (.bipush 8, 2) := by decide +kernel
theorem dX4_makes_41 : decode cX4_makes 41 = .ok (.irem, 1) := by decide +kernel
theorem dX4_makes_42 : decode cX4_makes 42 = .ok (.goto 4, 3) := by decide +kernel
theorem dX4_makes_45 : decode cX4_makes 45 = .ok (.iload_n 3, 1) := by decide +kernel
theorem dX4_makes_46 : decode cX4_makes 46 = .ok (.ireturn, 1) := by decide +kernel
theorem dX4_tell_0 : decode cX4_tell 0 = .ok (.iload_n 2, 1) := by decide +kernel
theorem dX4_tell_1 : decode cX4_tell 1 = .ok (.i2l, 1) := by decide +kernel
theorem dX4_tell_2 : decode cX4_tell 2 = .ok (.ldc2_w 103, 3) := by decide +kernel
theorem dX4_tell_5 : decode cX4_tell 5 = .ok (.ldc2_w 105, 3) := by decide +kernel
theorem dX4_tell_8 : decode cX4_tell 8 = .ok (.invokestatic 58, 3) := by decide +kernel
theorem dX4_tell_11 : decode cX4_tell 11 = .ok (.ifCond .eq 33, 3) := by decide +kernel
theorem dX4_tell_14 : decode cX4_tell 14 = .ok (.aload_n 0, 1) := by decide +kernel
theorem dX4_tell_15 : decode cX4_tell 15 = .ok (.getfield 16, 3) := by decide +kernel
theorem dX4_tell_18 : decode cX4_tell 18 = .ok (.iconst 4, 1) := by decide +kernel
theorem dX4_tell_19 : decode cX4_tell 19 = .ok (.iload_n 1, 1) := by decide +kernel
theorem dX4_tell_20 : decode cX4_tell 20 = .ok (.imul, 1) := by decide +kernel
theorem dX4_tell_21 : decode cX4_tell 21 = .ok (.iaload, 1) := by decide +kernel
theorem dX4_tell_22 : decode cX4_tell 22 = .ok (.aload_n 0, 1) := by decide +kernel
theorem dX4_tell_23 : decode cX4_tell 23 = .ok (.getfield 16, 3) := by decide +kernel
theorem dX4_tell_26 : decode cX4_tell 26 = .ok (.iconst 4, 1) := by decide +kernel
theorem dX4_tell_27 : decode cX4_tell 27 = .ok (.iload_n 1, 1) := by decide +kernel
theorem dX4_tell_28 : decode cX4_tell 28 = .ok (.imul, 1) := by decide +kernel
theorem dX4_tell_29 : decode cX4_tell 29 = .ok (.iconst 1, 1) := by decide +kernel
theorem dX4_tell_30 : decode cX4_tell 30 = .ok (.iadd, 1) := by decide +kernel
theorem dX4_tell_31 : decode cX4_tell 31 = .ok (.iaload, 1) := by decide +kernel
theorem dX4_tell_32 : decode cX4_tell 32 = .ok (.aload_n 0, 1) := by decide +kernel
theorem dX4_tell_33 : decode cX4_tell 33 = .ok (.getfield 91, 3) := by decide +kernel
theorem dX4_tell_36 : decode cX4_tell 36 = .ok (.iload_n 2, 1) := by decide +kernel
theorem dX4_tell_37 : decode cX4_tell 37 = .ok (.bipush 10, 2) := by decide +kernel
theorem dX4_tell_39 : decode cX4_tell 39 = .ok (.isub, 1) := by decide +kernel
theorem dX4_tell_40 : decode cX4_tell 40 = .ok (.invokestatic 107, 3) := by decide +kernel
theorem dX4_tell_43 : decode cX4_tell 43 = .ok (.ireturn, 1) := by decide +kernel
theorem dX4_tell_44 : decode cX4_tell 44 = .ok (.iload_n 2, 1) := by decide +kernel
theorem dX4_tell_45 : decode cX4_tell 45 = .ok (.i2l, 1) := by decide +kernel
theorem dX4_tell_46 : decode cX4_tell 46 = .ok (.lconst 0, 1) := by decide +kernel
theorem dX4_tell_47 : decode cX4_tell 47 = .ok (.ldc2_w 111, 3) := by decide +kernel
theorem dX4_tell_50 : decode cX4_tell 50 = .ok (.invokestatic 58, 3) := by decide +kernel
theorem dX4_tell_53 : decode cX4_tell 53 = .ok (.ifCond .eq 16, 3) := by decide +kernel
theorem dX4_tell_56 : decode cX4_tell 56 = .ok (.aload_n 0, 1) := by decide +kernel
theorem dX4_tell_57 : decode cX4_tell 57 = .ok (.getfield 16, 3) := by decide +kernel
theorem dX4_tell_60 : decode cX4_tell 60 = .ok (.iconst 4, 1) := by decide +kernel
theorem dX4_tell_61 : decode cX4_tell 61 = .ok (.iload_n 1, 1) := by decide +kernel
theorem dX4_tell_62 : decode cX4_tell 62 = .ok (.imul, 1) := by decide +kernel
theorem dX4_tell_63 : decode cX4_tell 63 = .ok (.iload_n 2, 1) := by decide +kernel
theorem dX4_tell_64 : decode cX4_tell 64 = .ok (.iadd, 1) := by decide +kernel
theorem dX4_tell_65 : decode cX4_tell 65 = .ok (.iaload, 1) := by decide +kernel
theorem dX4_tell_66 : decode cX4_tell 66 = .ok (.goto 5, 3) := by decide +kernel
theorem dX4_tell_69 : decode cX4_tell 69 = .ok (.bipush (-102), 2) := by decide +kernel
theorem dX4_tell_71 : decode cX4_tell 71 = .ok (.ireturn, 1) := by decide +kernel
theorem dX4_about_0 : decode cX4_about 0 = .ok (.aload_n 0, 1) := by decide +kernel
theorem dX4_about_1 : decode cX4_about 1 = .ok (.iload_n 1, 1) := by decide +kernel
theorem dX4_about_2 : decode cX4_about 2 = .ok (.invokevirtual 113, 3) := by decide +kernel
theorem dX4_about_5 : decode cX4_about 5 = .ok (.ifCond .eq 12, 3) := by decide +kernel
theorem dX4_about_8 : decode cX4_about 8 = .ok (.aload_n 0, 1) := by decide +kernel
theorem dX4_about_9 : decode cX4_about 9 = .ok (.iload_n 1, 1) := by decide +kernel
theorem dX4_about_10 : decode cX4_about 10 = .ok (.iload_n 2, 1) := by decide +kernel
theorem dX4_about_11 : decode cX4_about 11 = .ok (.invokevirtual 116, 3) := by decide +kernel
theorem dX4_about_14 : decode cX4_about 14 = .ok (.goto 5, 3) := by decide +kernel
theorem dX4_about_17 : decode cX4_about 17 = .ok (.bipush (-101), 2) := by decide +kernel
theorem dX4_about_19 : decode cX4_about 19 = .ok (.ireturn, 1) := by decide +kernel
theorem dX4_as_0 : decode cX4_as 0 = .ok (.aload_n 0, 1) := by decide +kernel
theorem dX4_as_1 : decode cX4_as 1 = .ok (.iload_n 1, 1) := by decide +kernel
theorem dX4_as_2 : decode cX4_as 2 = .ok (.invokevirtual 113, 3) := by decide +kernel
theorem dX4_as_5 : decode cX4_as 5 = .ok (.ifCond .ne 6, 3) := by decide +kernel
theorem dX4_as_8 : decode cX4_as 8 = .ok (.bipush (-101), 2) := by decide +kernel
theorem dX4_as_10 : decode cX4_as 10 = .ok (.ireturn, 1) := by decide +kernel
theorem dX4_as_11 : decode cX4_as 11 = .ok (.iload_n 2, 1) := by decide +kernel
theorem dX4_as_12 : decode cX4_as 12 = .ok (.i2l, 1) := by decide +kernel
theorem dX4_as_13 : decode cX4_as 13 = .ok (.lconst 0, 1) := by decide +kernel
theorem dX4_as_14 : decode cX4_as 14 = .ok (.ldc2_w 120, 3) := by decide +kernel
theorem dX4_as_17 : decode cX4_as 17 = .ok (.invokestatic 58, 3) := by decide +kernel
theorem dX4_as_20 : decode cX4_as 20 = .ok (.ifCond .ne 6, 3) := by decide +kernel
theorem dX4_as_23 : decode cX4_as 23 = .ok (.bipush (-102), 2) := by decide +kernel
theorem dX4_as_25 : decode cX4_as 25 = .ok (.ireturn, 1) := by decide +kernel
theorem dX4_as_26 : decode cX4_as 26 = .ok (.aload_n 0, 1) := by decide +kernel
theorem dX4_as_27 : decode cX4_as 27 = .ok (.getfield 16, 3) := by decide +kernel
theorem dX4_as_30 : decode cX4_as 30 = .ok (.iconst 4, 1) := by decide +kernel
theorem dX4_as_31 : decode cX4_as 31 = .ok (.iload_n 1, 1) := by decide +kernel
theorem dX4_as_32 : decode cX4_as 32 = .ok (.imul, 1) := by decide +kernel
theorem dX4_as_33 : decode cX4_as 33 = .ok (.iaload, 1) := by decide +kernel
theorem dX4_as_34 : decode cX4_as 34 = .ok (.istore_n 3, 1) := by decide +kernel
theorem dX4_as_35 : decode cX4_as 35 = .ok (.iload_n 2, 1) := by decide +kernel
theorem dX4_as_36 : decode cX4_as 36 = .ok (.ifCond .eq 18, 3) := by decide +kernel
theorem dX4_as_39 : decode cX4_as 39 = .ok (.iload_n 2, 1) := by decide +kernel
theorem dX4_as_40 : decode cX4_as 40 = .ok (.iload_n 3, 1) := by decide +kernel
theorem dX4_as_41 : decode cX4_as 41 = .ok (.if_icmp .eq 13, 3) := by decide +kernel
theorem dX4_as_44 : decode cX4_as 44 = .ok (.iload_n 2, 1) := by decide +kernel
theorem dX4_as_45 : decode cX4_as 45 = .ok (.iconst 2, 1) := by decide +kernel
theorem dX4_as_46 : decode cX4_as 46 = .ok (.if_icmp .ne 12, 3) := by decide +kernel
theorem dX4_as_49 : decode cX4_as 49 = .ok (.iload_n 3, 1) := by decide +kernel
theorem dX4_as_50 : decode cX4_as 50 = .ok (.iconst 4, 1) := by decide +kernel
theorem dX4_as_51 : decode cX4_as 51 = .ok (.if_icmp .ne 7, 3) := by decide +kernel
theorem dX4_as_54 : decode cX4_as 54 = .ok (.iconst 1, 1) := by decide +kernel
theorem dX4_as_55 : decode cX4_as 55 = .ok (.goto 4, 3) := by decide +kernel
theorem dX4_as_58 : decode cX4_as 58 = .ok (.iconst 0, 1) := by decide +kernel
theorem dX4_as_59 : decode cX4_as 59 = .ok (.istore 4, 2) := by decide +kernel
theorem dX4_as_61 : decode cX4_as 61 = .ok (.iload 4, 2) := by decide +kernel
theorem dX4_as_63 : decode cX4_as 63 = .ok (.ifCond .eq 7, 3) := by decide +kernel
theorem dX4_as_66 : decode cX4_as 66 = .ok (.iload_n 1, 1) := by decide +kernel
theorem dX4_as_67 : decode cX4_as 67 = .ok (.goto 4, 3) := by decide +kernel
theorem dX4_as_70 : decode cX4_as 70 = .ok (.iconst (-1), 1) := by decide +kernel
theorem dX4_as_71 : decode cX4_as 71 = .ok (.ireturn, 1) := by decide +kernel
theorem dX4_seat_0 : decode cX4_seat 0 = .ok (.aload_n 0, 1) := by decide +kernel
theorem dX4_seat_1 : decode cX4_seat 1 = .ok (.iload_n 1, 1) := by decide +kernel
theorem dX4_seat_2 : decode cX4_seat 2 = .ok (.invokevirtual 113, 3) := by decide +kernel
theorem dX4_seat_5 : decode cX4_seat 5 = .ok (.ifCond .eq 12, 3) := by decide +kernel
theorem dX4_seat_8 : decode cX4_seat 8 = .ok (.aload_n 0, 1) := by decide +kernel
theorem dX4_seat_9 : decode cX4_seat 9 = .ok (.getfield 19, 3) := by decide +kernel
theorem dX4_seat_12 : decode cX4_seat 12 = .ok (.iload_n 1, 1) := by decide +kernel
theorem dX4_seat_13 : decode cX4_seat 13 = .ok (.iaload, 1) := by decide +kernel
theorem dX4_seat_14 : decode cX4_seat 14 = .ok (.goto 5, 3) := by decide +kernel
theorem dX4_seat_17 : decode cX4_seat 17 = .ok (.bipush (-101), 2) := by decide +kernel
theorem dX4_seat_19 : decode cX4_seat 19 = .ok (.ireturn, 1) := by decide +kernel
theorem dX4_exchange_0 : decode cX4_exchange 0 = .ok (.aload_n 0, 1) := by decide +kernel
theorem dX4_exchange_1 : decode cX4_exchange 1 = .ok (.iload_n 1, 1) := by decide +kernel
theorem dX4_exchange_2 : decode cX4_exchange 2 = .ok (.invokevirtual 113, 3) := by decide +kernel
theorem dX4_exchange_5 : decode cX4_exchange 5 = .ok (.ifCond .eq 11, 3) := by decide +kernel
theorem dX4_exchange_8 : decode cX4_exchange 8 = .ok (.aload_n 0, 1) := by decide +kernel
theorem dX4_exchange_9 : decode cX4_exchange 9 = .ok (.iload_n 2, 1) := by decide +kernel
theorem dX4_exchange_10 : decode cX4_exchange 10 = .ok (.invokevirtual 113, 3) := by decide +kernel
theorem dX4_exchange_13 : decode cX4_exchange 13 = .ok (.ifCond .ne 6, 3) := by decide +kernel
theorem dX4_exchange_16 : decode cX4_exchange 16 = .ok (.bipush (-101), 2) := by decide +kernel
theorem dX4_exchange_18 : decode cX4_exchange 18 = .ok (.ireturn, 1) := by decide +kernel
theorem dX4_exchange_19 : decode cX4_exchange 19 = .ok (.aload_n 0, 1) := by decide +kernel
theorem dX4_exchange_20 : decode cX4_exchange 20 = .ok (.getfield 19, 3) := by decide +kernel
theorem dX4_exchange_23 : decode cX4_exchange 23 = .ok (.iload_n 1, 1) := by decide +kernel
theorem dX4_exchange_24 : decode cX4_exchange 24 = .ok (.iaload, 1) := by decide +kernel
theorem dX4_exchange_25 : decode cX4_exchange 25 = .ok (.istore_n 3, 1) := by decide +kernel
theorem dX4_exchange_26 : decode cX4_exchange 26 = .ok (.aload_n 0, 1) := by decide +kernel
theorem dX4_exchange_27 : decode cX4_exchange 27 = .ok (.getfield 19, 3) := by decide +kernel
theorem dX4_exchange_30 : decode cX4_exchange 30 = .ok (.iload_n 1, 1) := by decide +kernel
theorem dX4_exchange_31 : decode cX4_exchange 31 = .ok (.aload_n 0, 1) := by decide +kernel
theorem dX4_exchange_32 : decode cX4_exchange 32 = .ok (.getfield 19, 3) := by decide +kernel
theorem dX4_exchange_35 : decode cX4_exchange 35 = .ok (.iload_n 2, 1) := by decide +kernel
theorem dX4_exchange_36 : decode cX4_exchange 36 = .ok (.iaload, 1) := by decide +kernel
theorem dX4_exchange_37 : decode cX4_exchange 37 = .ok (.iastore, 1) := by decide +kernel
theorem dX4_exchange_38 : decode cX4_exchange 38 = .ok (.aload_n 0, 1) := by decide +kernel
theorem dX4_exchange_39 : decode cX4_exchange 39 = .ok (.getfield 19, 3) := by decide +kernel
theorem dX4_exchange_42 : decode cX4_exchange 42 = .ok (.iload_n 2, 1) := by decide +kernel
theorem dX4_exchange_43 : decode cX4_exchange 43 = .ok (.iload_n 3, 1) := by decide +kernel
theorem dX4_exchange_44 : decode cX4_exchange 44 = .ok (.iastore, 1) := by decide +kernel
theorem dX4_exchange_45 : decode cX4_exchange 45 = .ok (.aload_n 0, 1) := by decide +kernel
theorem dX4_exchange_46 : decode cX4_exchange 46 = .ok (.getfield 16, 3) := by decide +kernel
theorem dX4_exchange_49 : decode cX4_exchange 49 = .ok (.iconst 4, 1) := by decide +kernel
theorem dX4_exchange_50 : decode cX4_exchange 50 = .ok (.aload_n 0, 1) := by decide +kernel
theorem dX4_exchange_51 : decode cX4_exchange 51 = .ok (.getfield 19, 3) := by decide +kernel
theorem dX4_exchange_54 : decode cX4_exchange 54 = .ok (.iload_n 1, 1) := by decide +kernel
theorem dX4_exchange_55 : decode cX4_exchange 55 = .ok (.iaload, 1) := by decide +kernel
theorem dX4_exchange_56 : decode cX4_exchange 56 = .ok (.imul, 1) := by decide +kernel
theorem dX4_exchange_57 : decode cX4_exchange 57 = .ok (.iconst 2, 1) := by decide +kernel
theorem dX4_exchange_58 : decode cX4_exchange 58 = .ok (.iadd, 1) := by decide +kernel
theorem dX4_exchange_59 : decode cX4_exchange 59 = .ok (.iload_n 1, 1) := by decide +kernel
theorem dX4_exchange_60 : decode cX4_exchange 60 = .ok (.iastore, 1) := by decide +kernel
theorem dX4_exchange_61 : decode cX4_exchange 61 = .ok (.aload_n 0, 1) := by decide +kernel
theorem dX4_exchange_62 : decode cX4_exchange 62 = .ok (.getfield 16, 3) := by decide +kernel
theorem dX4_exchange_65 : decode cX4_exchange 65 = .ok (.iconst 4, 1) := by decide +kernel
theorem dX4_exchange_66 : decode cX4_exchange 66 = .ok (.aload_n 0, 1) := by decide +kernel
theorem dX4_exchange_67 : decode cX4_exchange 67 = .ok (.getfield 19, 3) := by decide +kernel
theorem dX4_exchange_70 : decode cX4_exchange 70 = .ok (.iload_n 2, 1) := by decide +kernel
theorem dX4_exchange_71 : decode cX4_exchange 71 = .ok (.iaload, 1) := by decide +kernel
theorem dX4_exchange_72 : decode cX4_exchange 72 = .ok (.imul, 1) := by decide +kernel
theorem dX4_exchange_73 : decode cX4_exchange 73 = .ok (.iconst 2, 1) := by decide +kernel
theorem dX4_exchange_74 : decode cX4_exchange 74 = .ok (.iadd, 1) := by decide +kernel
theorem dX4_exchange_75 : decode cX4_exchange 75 = .ok (.iload_n 2, 1) := by decide +kernel
theorem dX4_exchange_76 : decode cX4_exchange 76 = .ok (.iastore, 1) := by decide +kernel
theorem dX4_exchange_77 : decode cX4_exchange 77 = .ok (.aload_n 0, 1) := by decide +kernel
theorem dX4_exchange_78 : decode cX4_exchange 78 = .ok (.getfield 19, 3) := by decide +kernel
theorem dX4_exchange_81 : decode cX4_exchange 81 = .ok (.iload_n 1, 1) := by decide +kernel
theorem dX4_exchange_82 : decode cX4_exchange 82 = .ok (.iaload, 1) := by decide +kernel
theorem dX4_exchange_83 : decode cX4_exchange 83 = .ok (.ireturn, 1) := by decide +kernel
theorem dX4_twig_0 : decode cX4_twig 0 = .ok (.aload_n 0, 1) := by decide +kernel
theorem dX4_twig_1 : decode cX4_twig 1 = .ok (.iload_n 1, 1) := by decide +kernel
theorem dX4_twig_2 : decode cX4_twig 2 = .ok (.invokevirtual 113, 3) := by decide +kernel
theorem dX4_twig_5 : decode cX4_twig 5 = .ok (.ifCond .ne 6, 3) := by decide +kernel
theorem dX4_twig_8 : decode cX4_twig 8 = .ok (.bipush (-101), 2) := by decide +kernel
theorem dX4_twig_10 : decode cX4_twig 10 = .ok (.ireturn, 1) := by decide +kernel
theorem dX4_twig_11 : decode cX4_twig 11 = .ok (.iload_n 2, 1) := by decide +kernel
theorem dX4_twig_12 : decode cX4_twig 12 = .ok (.i2l, 1) := by decide +kernel
theorem dX4_twig_13 : decode cX4_twig 13 = .ok (.lconst 0, 1) := by decide +kernel
theorem dX4_twig_14 : decode cX4_twig 14 = .ok (.ldc2_w 75, 3) := by decide +kernel
theorem dX4_twig_17 : decode cX4_twig 17 = .ok (.invokestatic 58, 3) := by decide +kernel
theorem dX4_twig_20 : decode cX4_twig 20 = .ok (.ifCond .ne 6, 3) := by decide +kernel
theorem dX4_twig_23 : decode cX4_twig 23 = .ok (.bipush (-102), 2) := by decide +kernel
theorem dX4_twig_25 : decode cX4_twig 25 = .ok (.ireturn, 1) := by decide +kernel
theorem dX4_twig_26 : decode cX4_twig 26 = .ok (.aload_n 0, 1) := by decide +kernel
theorem dX4_twig_27 : decode cX4_twig 27 = .ok (.getfield 16, 3) := by decide +kernel
theorem dX4_twig_30 : decode cX4_twig 30 = .ok (.iconst 4, 1) := by decide +kernel
theorem dX4_twig_31 : decode cX4_twig 31 = .ok (.iload_n 1, 1) := by decide +kernel
theorem dX4_twig_32 : decode cX4_twig 32 = .ok (.imul, 1) := by decide +kernel
theorem dX4_twig_33 : decode cX4_twig 33 = .ok (.iconst 1, 1) := by decide +kernel
theorem dX4_twig_34 : decode cX4_twig 34 = .ok (.iadd, 1) := by decide +kernel
theorem dX4_twig_35 : decode cX4_twig 35 = .ok (.iaload, 1) := by decide +kernel
theorem dX4_twig_36 : decode cX4_twig 36 = .ok (.istore_n 3, 1) := by decide +kernel
theorem dX4_twig_37 : decode cX4_twig 37 = .ok (.aload_n 0, 1) := by decide +kernel
theorem dX4_twig_38 : decode cX4_twig 38 = .ok (.getfield 16, 3) := by decide +kernel
theorem dX4_twig_41 : decode cX4_twig 41 = .ok (.iconst 4, 1) := by decide +kernel
theorem dX4_twig_42 : decode cX4_twig 42 = .ok (.iload_n 1, 1) := by decide +kernel
theorem dX4_twig_43 : decode cX4_twig 43 = .ok (.imul, 1) := by decide +kernel
theorem dX4_twig_44 : decode cX4_twig 44 = .ok (.iconst 1, 1) := by decide +kernel
theorem dX4_twig_45 : decode cX4_twig 45 = .ok (.iadd, 1) := by decide +kernel
theorem dX4_twig_46 : decode cX4_twig 46 = .ok (.iload_n 2, 1) := by decide +kernel
theorem dX4_twig_47 : decode cX4_twig 47 = .ok (.iastore, 1) := by decide +kernel
theorem dX4_twig_48 : decode cX4_twig 48 = .ok (.iload_n 3, 1) := by decide +kernel
theorem dX4_twig_49 : decode cX4_twig 49 = .ok (.ireturn, 1) := by decide +kernel
theorem dX4_wind_0 : decode cX4_wind 0 = .ok (.iload_n 1, 1) := by decide +kernel
theorem dX4_wind_1 : decode cX4_wind 1 = .ok (.i2l, 1) := by decide +kernel
theorem dX4_wind_2 : decode cX4_wind 2 = .ok (.lconst 0, 1) := by decide +kernel
theorem dX4_wind_3 : decode cX4_wind 3 = .ok (.lconst 1, 1) := by decide +kernel
theorem dX4_wind_4 : decode cX4_wind 4 = .ok (.invokestatic 58, 3) := by decide +kernel
theorem dX4_wind_7 : decode cX4_wind 7 = .ok (.ifCond .ne 6, 3) := by decide +kernel
theorem dX4_wind_10 : decode cX4_wind 10 = .ok (.bipush (-102), 2) := by decide +kernel
theorem dX4_wind_12 : decode cX4_wind 12 = .ok (.ireturn, 1) := by decide +kernel
theorem dX4_wind_13 : decode cX4_wind 13 = .ok (.aload_n 0, 1) := by decide +kernel
theorem dX4_wind_14 : decode cX4_wind 14 = .ok (.invokevirtual 122, 3) := by decide +kernel
theorem dX4_wind_17 : decode cX4_wind 17 = .ok (.ifCond .eq 6, 3) := by decide +kernel
theorem dX4_wind_20 : decode cX4_wind 20 = .ok (.bipush (-103), 2) := by decide +kernel
theorem dX4_wind_22 : decode cX4_wind 22 = .ok (.ireturn, 1) := by decide +kernel
theorem dX4_wind_23 : decode cX4_wind 23 = .ok (.aload_n 0, 1) := by decide +kernel
theorem dX4_wind_24 : decode cX4_wind 24 = .ok (.getfield 91, 3) := by decide +kernel
theorem dX4_wind_27 : decode cX4_wind 27 = .ok (.istore_n 2, 1) := by decide +kernel
theorem dX4_wind_28 : decode cX4_wind 28 = .ok (.aload_n 0, 1) := by decide +kernel
theorem dX4_wind_29 : decode cX4_wind 29 = .ok (.iload_n 1, 1) := by decide +kernel
theorem dX4_wind_30 : decode cX4_wind 30 = .ok (.putfield 91, 3) := by decide +kernel
theorem dX4_wind_33 : decode cX4_wind 33 = .ok (.iload_n 2, 1) := by decide +kernel
theorem dX4_wind_34 : decode cX4_wind 34 = .ok (.ireturn, 1) := by decide +kernel
theorem dX4_asTheySit_0 : decode cX4_asTheySit 0 = .ok (.iconst 0, 1) := by decide +kernel
theorem dX4_asTheySit_1 : decode cX4_asTheySit 1 = .ok (.istore_n 1, 1) := by decide +kernel
theorem dX4_asTheySit_2 : decode cX4_asTheySit 2 = .ok (.iload_n 1, 1) := by decide +kernel
theorem dX4_asTheySit_3 : decode cX4_asTheySit 3 = .ok (.aload_n 0, 1) := by decide +kernel
theorem dX4_asTheySit_4 : decode cX4_asTheySit 4 = .ok (.getfield 88, 3) := by decide +kernel
theorem dX4_asTheySit_7 : decode cX4_asTheySit 7 = .ok (.if_icmp .ge 49, 3) := by decide +kernel
theorem dX4_asTheySit_10 : decode cX4_asTheySit 10 = .ok (.aload_n 0, 1) := by decide +kernel
theorem dX4_asTheySit_11 : decode cX4_asTheySit 11 = .ok (.getfield 22, 3) := by decide +kernel
theorem dX4_asTheySit_14 : decode cX4_asTheySit 14 = .ok (.iload_n 1, 1) := by decide +kernel
theorem dX4_asTheySit_15 : decode cX4_asTheySit 15 = .ok (.aload_n 0, 1) := by decide +kernel
theorem dX4_asTheySit_16 : decode cX4_asTheySit 16 = .ok (.getfield 16, 3) := by decide +kernel
theorem dX4_asTheySit_19 : decode cX4_asTheySit 19 = .ok (.iconst 4, 1) := by decide +kernel
theorem dX4_asTheySit_20 : decode cX4_asTheySit 20 = .ok (.aload_n 0, 1) := by decide +kernel
theorem dX4_asTheySit_21 : decode cX4_asTheySit 21 = .ok (.getfield 19, 3) := by decide +kernel
theorem dX4_asTheySit_24 : decode cX4_asTheySit 24 = .ok (.iload_n 1, 1) := by decide +kernel
theorem dX4_asTheySit_25 : decode cX4_asTheySit 25 = .ok (.iaload, 1) := by decide +kernel
theorem dX4_asTheySit_26 : decode cX4_asTheySit 26 = .ok (.imul, 1) := by decide +kernel
theorem dX4_asTheySit_27 : decode cX4_asTheySit 27 = .ok (.iaload, 1) := by decide +kernel
theorem dX4_asTheySit_28 : decode cX4_asTheySit 28 = .ok (.iastore, 1) := by decide +kernel
theorem dX4_asTheySit_29 : decode cX4_asTheySit 29 = .ok (.aload_n 0, 1) := by decide +kernel
theorem dX4_asTheySit_30 : decode cX4_asTheySit 30 = .ok (.getfield 25, 3) := by decide +kernel
theorem dX4_asTheySit_33 : decode cX4_asTheySit 33 = .ok (.iload_n 1, 1) := by decide +kernel
theorem dX4_asTheySit_34 : decode cX4_asTheySit 34 = .ok (.aload_n 0, 1) := by decide +kernel
theorem dX4_asTheySit_35 : decode cX4_asTheySit 35 = .ok (.getfield 16, 3) := by decide +kernel
theorem dX4_asTheySit_38 : decode cX4_asTheySit 38 = .ok (.iconst 4, 1) := by decide +kernel
theorem dX4_asTheySit_39 : decode cX4_asTheySit 39 = .ok (.aload_n 0, 1) := by decide +kernel
theorem dX4_asTheySit_40 : decode cX4_asTheySit 40 = .ok (.getfield 19, 3) := by decide +kernel
theorem dX4_asTheySit_43 : decode cX4_asTheySit 43 = .ok (.iload_n 1, 1) := by decide +kernel
theorem dX4_asTheySit_44 : decode cX4_asTheySit 44 = .ok (.iaload, 1) := by decide +kernel
theorem dX4_asTheySit_45 : decode cX4_asTheySit 45 = .ok (.imul, 1) := by decide +kernel
theorem dX4_asTheySit_46 : decode cX4_asTheySit 46 = .ok (.iconst 1, 1) := by decide +kernel
theorem dX4_asTheySit_47 : decode cX4_asTheySit 47 = .ok (.iadd, 1) := by decide +kernel
theorem dX4_asTheySit_48 : decode cX4_asTheySit 48 = .ok (.iaload, 1) := by decide +kernel
theorem dX4_asTheySit_49 : decode cX4_asTheySit 49 = .ok (.iastore, 1) := by decide +kernel
theorem dX4_asTheySit_50 : decode cX4_asTheySit 50 = .ok (.iinc 1 1, 3) := by decide +kernel
theorem dX4_asTheySit_53 : decode cX4_asTheySit 53 = .ok (.goto (-51), 3) := by decide +kernel
theorem dX4_asTheySit_56 : decode cX4_asTheySit 56 = .ok (.return_, 1) := by decide +kernel
theorem dX4_comesOf_0 : decode cX4_comesOf 0 = .ok (.iload_n 2, 1) := by decide +kernel
theorem dX4_comesOf_1 : decode cX4_comesOf 1 = .ok (.istore 4, 2) := by decide +kernel
theorem dX4_comesOf_3 : decode cX4_comesOf 3 = .ok (.iconst 1, 1) := by decide +kernel
theorem dX4_comesOf_4 : decode cX4_comesOf 4 = .ok (.istore 5, 2) := by decide +kernel
theorem dX4_comesOf_6 : decode cX4_comesOf 6 = .ok (.iconst 1, 1) := by decide +kernel
theorem dX4_comesOf_7 : decode cX4_comesOf 7 = .ok (.istore 6, 2) := by decide +kernel
theorem dX4_comesOf_9 : decode cX4_comesOf 9 = .ok (.iload 6, 2) := by decide +kernel
theorem dX4_comesOf_11 : decode cX4_comesOf 11 = .ok (.aload_n 0, 1) := by decide +kernel
theorem dX4_comesOf_12 : decode cX4_comesOf 12 = .ok (.getfield 88, 3) := by decide +kernel
theorem dX4_comesOf_15 : decode cX4_comesOf 15 = .ok (.if_icmp .gt 81, 3) := by decide +kernel
theorem dX4_comesOf_18 : decode cX4_comesOf 18 = .ok (.iload_n 1, 1) := by decide +kernel
theorem dX4_comesOf_19 : decode cX4_comesOf 19 = .ok (.iload 6, 2) := by decide +kernel
theorem dX4_comesOf_21 : decode cX4_comesOf 21 = .ok (.iadd, 1) := by decide +kernel
theorem dX4_comesOf_22 : decode cX4_comesOf 22 = .ok (.aload_n 0, 1) := by decide +kernel
theorem dX4_comesOf_23 : decode cX4_comesOf 23 = .ok (.getfield 88, 3) := by decide +kernel
theorem dX4_comesOf_26 : decode cX4_comesOf 26 = .ok (.irem, 1) := by decide +kernel
theorem dX4_comesOf_27 : decode cX4_comesOf 27 = .ok (.istore 7, 2) := by decide +kernel
theorem dX4_comesOf_29 : decode cX4_comesOf 29 = .ok (.aload_n 0, 1) := by decide +kernel
theorem dX4_comesOf_30 : decode cX4_comesOf 30 = .ok (.getfield 22, 3) := by decide +kernel
theorem dX4_comesOf_33 : decode cX4_comesOf 33 = .ok (.iload 7, 2) := by decide +kernel
theorem dX4_comesOf_35 : decode cX4_comesOf 35 = .ok (.iaload, 1) := by decide +kernel
theorem dX4_comesOf_36 : decode cX4_comesOf 36 = .ok (.iconst 3, 1) := by decide +kernel
theorem dX4_comesOf_37 : decode cX4_comesOf 37 = .ok (.if_icmp .ne 12, 3) := by decide +kernel
theorem dX4_comesOf_40 : decode cX4_comesOf 40 = .ok (.iload 5, 2) := by decide +kernel
theorem dX4_comesOf_42 : decode cX4_comesOf 42 = .ok (.iconst 2, 1) := by decide +kernel
theorem dX4_comesOf_43 : decode cX4_comesOf 43 = .ok (.imul, 1) := by decide +kernel
theorem dX4_comesOf_44 : decode cX4_comesOf 44 = .ok (.istore 5, 2) := by decide +kernel
theorem dX4_comesOf_46 : decode cX4_comesOf 46 = .ok (.goto 44, 3) := by decide +kernel
theorem dX4_comesOf_49 : decode cX4_comesOf 49 = .ok (.iconst 0, 1) := by decide +kernel
theorem dX4_comesOf_50 : decode cX4_comesOf 50 = .ok (.istore 8, 2) := by decide +kernel
theorem dX4_comesOf_52 : decode cX4_comesOf 52 = .ok (.iload 8, 2) := by decide +kernel
theorem dX4_comesOf_54 : decode cX4_comesOf 54 = .ok (.iload 5, 2) := by decide +kernel
theorem dX4_comesOf_56 : decode cX4_comesOf 56 = .ok (.if_icmp .ge 31, 3) := by decide +kernel
theorem dX4_comesOf_59 : decode cX4_comesOf 59 = .ok (.aload_n 0, 1) := by decide +kernel
theorem dX4_comesOf_60 : decode cX4_comesOf 60 = .ok (.getfield 22, 3) := by decide +kernel
theorem dX4_comesOf_63 : decode cX4_comesOf 63 = .ok (.iload 7, 2) := by decide +kernel
theorem dX4_comesOf_65 : decode cX4_comesOf 65 = .ok (.iaload, 1) := by decide +kernel
theorem dX4_comesOf_66 : decode cX4_comesOf 66 = .ok (.aload_n 0, 1) := by decide +kernel
theorem dX4_comesOf_67 : decode cX4_comesOf 67 = .ok (.getfield 25, 3) := by decide +kernel
theorem dX4_comesOf_70 : decode cX4_comesOf 70 = .ok (.iload 7, 2) := by decide +kernel
theorem dX4_comesOf_72 : decode cX4_comesOf 72 = .ok (.iaload, 1) := by decide +kernel
theorem dX4_comesOf_73 : decode cX4_comesOf 73 = .ok (.iload_n 3, 1) := by decide +kernel
theorem dX4_comesOf_74 : decode cX4_comesOf 74 = .ok (.iload 4, 2) := by decide +kernel
theorem dX4_comesOf_76 : decode cX4_comesOf 76 = .ok (.invokestatic 107, 3) := by decide +kernel
theorem dX4_comesOf_79 : decode cX4_comesOf 79 = .ok (.istore 4, 2) := by decide +kernel
theorem dX4_comesOf_81 : decode cX4_comesOf 81 = .ok (.iinc 8 1, 3) := by decide +kernel
theorem dX4_comesOf_84 : decode cX4_comesOf 84 = .ok (.goto (-32), 3) := by decide +kernel
theorem dX4_comesOf_87 : decode cX4_comesOf 87 = .ok (.iconst 1, 1) := by decide +kernel
theorem dX4_comesOf_88 : decode cX4_comesOf 88 = .ok (.istore 5, 2) := by decide +kernel
theorem dX4_comesOf_90 : decode cX4_comesOf 90 = .ok (.iinc 6 1, 3) := by decide +kernel
theorem dX4_comesOf_93 : decode cX4_comesOf 93 = .ok (.goto (-84), 3) := by decide +kernel
theorem dX4_comesOf_96 : decode cX4_comesOf 96 = .ok (.iload 4, 2) := by decide +kernel
theorem dX4_comesOf_98 : decode cX4_comesOf 98 = .ok (.ireturn, 1) := by decide +kernel
theorem dX4_comes_0 : decode cX4_comes 0 = .ok (.aload_n 0, 1) := by decide +kernel
theorem dX4_comes_1 : decode cX4_comes 1 = .ok (.iload_n 1, 1) := by decide +kernel
theorem dX4_comes_2 : decode cX4_comes 2 = .ok (.invokevirtual 113, 3) := by decide +kernel
theorem dX4_comes_5 : decode cX4_comes 5 = .ok (.ifCond .ne 6, 3) := by decide +kernel
theorem dX4_comes_8 : decode cX4_comes 8 = .ok (.bipush (-101), 2) := by decide +kernel
theorem dX4_comes_10 : decode cX4_comes 10 = .ok (.ireturn, 1) := by decide +kernel
theorem dX4_comes_11 : decode cX4_comes 11 = .ok (.iload_n 2, 1) := by decide +kernel
theorem dX4_comes_12 : decode cX4_comes 12 = .ok (.invokestatic 126, 3) := by decide +kernel
theorem dX4_comes_15 : decode cX4_comes 15 = .ok (.ifCond .ne 6, 3) := by decide +kernel
theorem dX4_comes_18 : decode cX4_comes 18 = .ok (.bipush (-102), 2) := by decide +kernel
theorem dX4_comes_20 : decode cX4_comes 20 = .ok (.ireturn, 1) := by decide +kernel
theorem dX4_comes_21 : decode cX4_comes 21 = .ok (.aload_n 0, 1) := by decide +kernel
theorem dX4_comes_22 : decode cX4_comes 22 = .ok (.invokevirtual 129, 3) := by decide +kernel
theorem dX4_comes_25 : decode cX4_comes 25 = .ok (.aload_n 0, 1) := by decide +kernel
theorem dX4_comes_26 : decode cX4_comes 26 = .ok (.iload_n 1, 1) := by decide +kernel
theorem dX4_comes_27 : decode cX4_comes 27 = .ok (.iload_n 2, 1) := by decide +kernel
theorem dX4_comes_28 : decode cX4_comes 28 = .ok (.aload_n 0, 1) := by decide +kernel
theorem dX4_comes_29 : decode cX4_comes 29 = .ok (.getfield 91, 3) := by decide +kernel
theorem dX4_comes_32 : decode cX4_comes 32 = .ok (.invokevirtual 132, 3) := by decide +kernel
theorem dX4_comes_35 : decode cX4_comes 35 = .ok (.ireturn, 1) := by decide +kernel
theorem dX4_sit_0 : decode cX4_sit 0 = .ok (.aload_n 0, 1) := by decide +kernel
theorem dX4_sit_1 : decode cX4_sit 1 = .ok (.iload_n 1, 1) := by decide +kernel
theorem dX4_sit_2 : decode cX4_sit 2 = .ok (.invokevirtual 113, 3) := by decide +kernel
theorem dX4_sit_5 : decode cX4_sit 5 = .ok (.ifCond .ne 6, 3) := by decide +kernel
theorem dX4_sit_8 : decode cX4_sit 8 = .ok (.bipush (-101), 2) := by decide +kernel
theorem dX4_sit_10 : decode cX4_sit 10 = .ok (.ireturn, 1) := by decide +kernel
theorem dX4_sit_11 : decode cX4_sit 11 = .ok (.iload_n 2, 1) := by decide +kernel
theorem dX4_sit_12 : decode cX4_sit 12 = .ok (.invokestatic 126, 3) := by decide +kernel
theorem dX4_sit_15 : decode cX4_sit 15 = .ok (.ifCond .ne 6, 3) := by decide +kernel
theorem dX4_sit_18 : decode cX4_sit 18 = .ok (.bipush (-102), 2) := by decide +kernel
theorem dX4_sit_20 : decode cX4_sit 20 = .ok (.ireturn, 1) := by decide +kernel
theorem dX4_sit_21 : decode cX4_sit 21 = .ok (.aload_n 0, 1) := by decide +kernel
theorem dX4_sit_22 : decode cX4_sit 22 = .ok (.invokevirtual 129, 3) := by decide +kernel
theorem dX4_sit_25 : decode cX4_sit 25 = .ok (.aload_n 0, 1) := by decide +kernel
theorem dX4_sit_26 : decode cX4_sit 26 = .ok (.iload_n 1, 1) := by decide +kernel
theorem dX4_sit_27 : decode cX4_sit 27 = .ok (.iload_n 2, 1) := by decide +kernel
theorem dX4_sit_28 : decode cX4_sit 28 = .ok (.aload_n 0, 1) := by decide +kernel
theorem dX4_sit_29 : decode cX4_sit 29 = .ok (.getfield 91, 3) := by decide +kernel
theorem dX4_sit_32 : decode cX4_sit 32 = .ok (.invokevirtual 132, 3) := by decide +kernel
theorem dX4_sit_35 : decode cX4_sit 35 = .ok (.istore_n 3, 1) := by decide +kernel
theorem dX4_sit_36 : decode cX4_sit 36 = .ok (.iload_n 3, 1) := by decide +kernel
theorem dX4_sit_37 : decode cX4_sit 37 = .ok (.iload_n 2, 1) := by decide +kernel
theorem dX4_sit_38 : decode cX4_sit 38 = .ok (.if_icmp .ne 24, 3) := by decide +kernel
theorem dX4_sit_41 : decode cX4_sit 41 = .ok (.aload_n 0, 1) := by decide +kernel
theorem dX4_sit_42 : decode cX4_sit 42 = .ok (.getfield 16, 3) := by decide +kernel
theorem dX4_sit_45 : decode cX4_sit 45 = .ok (.iconst 4, 1) := by decide +kernel
theorem dX4_sit_46 : decode cX4_sit 46 = .ok (.aload_n 0, 1) := by decide +kernel
theorem dX4_sit_47 : decode cX4_sit 47 = .ok (.getfield 19, 3) := by decide +kernel
theorem dX4_sit_50 : decode cX4_sit 50 = .ok (.iload_n 1, 1) := by decide +kernel
theorem dX4_sit_51 : decode cX4_sit 51 = .ok (.iaload, 1) := by decide +kernel
theorem dX4_sit_52 : decode cX4_sit 52 = .ok (.imul, 1) := by decide +kernel
theorem dX4_sit_53 : decode cX4_sit 53 = .ok (.iconst 3, 1) := by decide +kernel
theorem dX4_sit_54 : decode cX4_sit 54 = .ok (.iadd, 1) := by decide +kernel
theorem dX4_sit_55 : decode cX4_sit 55 = .ok (.dup2, 1) := by decide +kernel
theorem dX4_sit_56 : decode cX4_sit 56 = .ok (.iaload, 1) := by decide +kernel
theorem dX4_sit_57 : decode cX4_sit 57 = .ok (.iconst 1, 1) := by decide +kernel
theorem dX4_sit_58 : decode cX4_sit 58 = .ok (.iadd, 1) := by decide +kernel
theorem dX4_sit_59 : decode cX4_sit 59 = .ok (.iastore, 1) := by decide +kernel
theorem dX4_sit_60 : decode cX4_sit 60 = .ok (.iconst (-1), 1) := by decide +kernel
theorem dX4_sit_61 : decode cX4_sit 61 = .ok (.ireturn, 1) := by decide +kernel
theorem dX4_sit_62 : decode cX4_sit 62 = .ok (.aload_n 0, 1) := by decide +kernel
theorem dX4_sit_63 : decode cX4_sit 63 = .ok (.dup, 1) := by decide +kernel
theorem dX4_sit_64 : decode cX4_sit 64 = .ok (.getfield 94, 3) := by decide +kernel
theorem dX4_sit_67 : decode cX4_sit 67 = .ok (.iconst 1, 1) := by decide +kernel
theorem dX4_sit_68 : decode cX4_sit 68 = .ok (.iadd, 1) := by decide +kernel
theorem dX4_sit_69 : decode cX4_sit 69 = .ok (.putfield 94, 3) := by decide +kernel
theorem dX4_sit_72 : decode cX4_sit 72 = .ok (.aload_n 0, 1) := by decide +kernel
theorem dX4_sit_73 : decode cX4_sit 73 = .ok (.iload_n 3, 1) := by decide +kernel
theorem dX4_sit_74 : decode cX4_sit 74 = .ok (.putfield 53, 3) := by decide +kernel
theorem dX4_sit_77 : decode cX4_sit 77 = .ok (.iload_n 3, 1) := by decide +kernel
theorem dX4_sit_78 : decode cX4_sit 78 = .ok (.ireturn, 1) := by decide +kernel
theorem dX4_where_0 : decode cX4_where 0 = .ok (.iload_n 1, 1) := by decide +kernel
theorem dX4_where_1 : decode cX4_where 1 = .ok (.invokestatic 126, 3) := by decide +kernel
theorem dX4_where_4 : decode cX4_where 4 = .ok (.ifCond .eq 10, 3) := by decide +kernel
theorem dX4_where_7 : decode cX4_where 7 = .ok (.iload_n 2, 1) := by decide +kernel
theorem dX4_where_8 : decode cX4_where 8 = .ok (.invokestatic 126, 3) := by decide +kernel
theorem dX4_where_11 : decode cX4_where 11 = .ok (.ifCond .ne 6, 3) := by decide +kernel
theorem dX4_where_14 : decode cX4_where 14 = .ok (.bipush (-102), 2) := by decide +kernel
theorem dX4_where_16 : decode cX4_where 16 = .ok (.ireturn, 1) := by decide +kernel
theorem dX4_where_17 : decode cX4_where 17 = .ok (.aload_n 0, 1) := by decide +kernel
theorem dX4_where_18 : decode cX4_where 18 = .ok (.invokevirtual 122, 3) := by decide +kernel
theorem dX4_where_21 : decode cX4_where 21 = .ok (.ifCond .eq 6, 3) := by decide +kernel
theorem dX4_where_24 : decode cX4_where 24 = .ok (.bipush (-103), 2) := by decide +kernel
theorem dX4_where_26 : decode cX4_where 26 = .ok (.ireturn, 1) := by decide +kernel
theorem dX4_where_27 : decode cX4_where 27 = .ok (.aload_n 0, 1) := by decide +kernel
theorem dX4_where_28 : decode cX4_where 28 = .ok (.invokevirtual 129, 3) := by decide +kernel
theorem dX4_where_31 : decode cX4_where 31 = .ok (.iconst 0, 1) := by decide +kernel
theorem dX4_where_32 : decode cX4_where 32 = .ok (.istore_n 3, 1) := by decide +kernel
theorem dX4_where_33 : decode cX4_where 33 = .ok (.iconst 0, 1) := by decide +kernel
theorem dX4_where_34 : decode cX4_where 34 = .ok (.istore 4, 2) := by decide +kernel
theorem dX4_where_36 : decode cX4_where 36 = .ok (.iload 4, 2) := by decide +kernel
theorem dX4_where_38 : decode cX4_where 38 = .ok (.aload_n 0, 1) := by decide +kernel
theorem dX4_where_39 : decode cX4_where 39 = .ok (.getfield 88, 3) := by decide +kernel
theorem dX4_where_42 : decode cX4_where 42 = .ok (.if_icmp .ge 35, 3) := by decide +kernel
theorem dX4_where_45 : decode cX4_where 45 = .ok (.iload_n 3, 1) := by decide +kernel
theorem dX4_where_46 : decode cX4_where 46 = .ok (.aload_n 0, 1) := by decide +kernel
theorem dX4_where_47 : decode cX4_where 47 = .ok (.iload 4, 2) := by decide +kernel
theorem dX4_where_49 : decode cX4_where 49 = .ok (.iload_n 1, 1) := by decide +kernel
theorem dX4_where_50 : decode cX4_where 50 = .ok (.aload_n 0, 1) := by decide +kernel
theorem dX4_where_51 : decode cX4_where 51 = .ok (.getfield 91, 3) := by decide +kernel
theorem dX4_where_54 : decode cX4_where 54 = .ok (.invokevirtual 132, 3) := by decide +kernel
theorem dX4_where_57 : decode cX4_where 57 = .ok (.iload_n 2, 1) := by decide +kernel
theorem dX4_where_58 : decode cX4_where 58 = .ok (.if_icmp .ne 10, 3) := by decide +kernel
theorem dX4_where_61 : decode cX4_where 61 = .ok (.iconst 1, 1) := by decide +kernel
theorem dX4_where_62 : decode cX4_where 62 = .ok (.iload 4, 2) := by decide +kernel
theorem dX4_where_64 : decode cX4_where 64 = .ok (.ishl, 1) := by decide +kernel
theorem dX4_where_65 : decode cX4_where 65 = .ok (.goto 4, 3) := by decide +kernel
theorem dX4_where_68 : decode cX4_where 68 = .ok (.iconst 0, 1) := by decide +kernel
theorem dX4_where_69 : decode cX4_where 69 = .ok (.ior, 1) := by decide +kernel
theorem dX4_where_70 : decode cX4_where 70 = .ok (.istore_n 3, 1) := by decide +kernel
theorem dX4_where_71 : decode cX4_where 71 = .ok (.iinc 4 1, 3) := by decide +kernel
theorem dX4_where_74 : decode cX4_where 74 = .ok (.goto (-38), 3) := by decide +kernel
theorem dX4_where_77 : decode cX4_where 77 = .ok (.iload_n 3, 1) := by decide +kernel
theorem dX4_where_78 : decode cX4_where 78 = .ok (.ireturn, 1) := by decide +kernel
theorem dX4_canOf_0 : decode cX4_canOf 0 = .ok (.aload_n 0, 1) := by decide +kernel
theorem dX4_canOf_1 : decode cX4_canOf 1 = .ok (.invokevirtual 129, 3) := by decide +kernel
theorem dX4_canOf_4 : decode cX4_canOf 4 = .ok (.iconst 0, 1) := by decide +kernel
theorem dX4_canOf_5 : decode cX4_canOf 5 = .ok (.istore_n 1, 1) := by decide +kernel
theorem dX4_canOf_6 : decode cX4_canOf 6 = .ok (.iconst 0, 1) := by decide +kernel
theorem dX4_canOf_7 : decode cX4_canOf 7 = .ok (.istore_n 2, 1) := by decide +kernel
theorem dX4_canOf_8 : decode cX4_canOf 8 = .ok (.iload_n 2, 1) := by decide +kernel
theorem dX4_canOf_9 : decode cX4_canOf 9 = .ok (.bipush 8, 2) := by decide +kernel
theorem dX4_canOf_11 : decode cX4_canOf 11 = .ok (.aload_n 0, 1) := by decide +kernel
theorem dX4_canOf_12 : decode cX4_canOf 12 = .ok (.getfield 88, 3) := by decide +kernel
theorem dX4_canOf_15 : decode cX4_canOf 15 = .ok (.imul, 1) := by decide +kernel
theorem dX4_canOf_16 : decode cX4_canOf 16 = .ok (.if_icmp .ge 44, 3) := by decide +kernel
theorem dX4_canOf_19 : decode cX4_canOf 19 = .ok (.aload_n 0, 1) := by decide +kernel
theorem dX4_canOf_20 : decode cX4_canOf 20 = .ok (.iload_n 2, 1) := by decide +kernel
theorem dX4_canOf_21 : decode cX4_canOf 21 = .ok (.bipush 8, 2) := by decide +kernel
theorem dX4_canOf_23 : decode cX4_canOf 23 = .ok (.idiv, 1) := by decide +kernel
theorem dX4_canOf_24 : decode cX4_canOf 24 = .ok (.iload_n 2, 1) := by decide +kernel
theorem dX4_canOf_25 : decode cX4_canOf 25 = .ok (.bipush 8, 2) := by decide +kernel
theorem dX4_canOf_27 : decode cX4_canOf 27 = .ok (.irem, 1) := by decide +kernel
theorem dX4_canOf_28 : decode cX4_canOf 28 = .ok (.aload_n 0, 1) := by decide +kernel
theorem dX4_canOf_29 : decode cX4_canOf 29 = .ok (.getfield 91, 3) := by decide +kernel
theorem dX4_canOf_32 : decode cX4_canOf 32 = .ok (.invokevirtual 132, 3) := by decide +kernel
theorem dX4_canOf_35 : decode cX4_canOf 35 = .ok (.istore_n 3, 1) := by decide +kernel
theorem dX4_canOf_36 : decode cX4_canOf 36 = .ok (.iload_n 1, 1) := by decide +kernel
theorem dX4_canOf_37 : decode cX4_canOf 37 = .ok (.iload_n 3, 1) := by decide +kernel
theorem dX4_canOf_38 : decode cX4_canOf 38 = .ok (.iload_n 2, 1) := by decide +kernel
theorem dX4_canOf_39 : decode cX4_canOf 39 = .ok (.bipush 8, 2) := by decide +kernel
theorem dX4_canOf_41 : decode cX4_canOf 41 = .ok (.irem, 1) := by decide +kernel
theorem dX4_canOf_42 : decode cX4_canOf 42 = .ok (.if_icmp .ne 7, 3) := by decide +kernel
theorem dX4_canOf_45 : decode cX4_canOf 45 = .ok (.iconst 0, 1) := by decide +kernel
theorem dX4_canOf_46 : decode cX4_canOf 46 = .ok (.goto 6, 3) := by decide +kernel
theorem dX4_canOf_49 : decode cX4_canOf 49 = .ok (.iconst 1, 1) := by decide +kernel
theorem dX4_canOf_50 : decode cX4_canOf 50 = .ok (.iload_n 3, 1) := by decide +kernel
theorem dX4_canOf_51 : decode cX4_canOf 51 = .ok (.ishl, 1) := by decide +kernel
theorem dX4_canOf_52 : decode cX4_canOf 52 = .ok (.ior, 1) := by decide +kernel
theorem dX4_canOf_53 : decode cX4_canOf 53 = .ok (.istore_n 1, 1) := by decide +kernel
theorem dX4_canOf_54 : decode cX4_canOf 54 = .ok (.iinc 2 1, 3) := by decide +kernel
theorem dX4_canOf_57 : decode cX4_canOf 57 = .ok (.goto (-49), 3) := by decide +kernel
theorem dX4_canOf_60 : decode cX4_canOf 60 = .ok (.iload_n 1, 1) := by decide +kernel
theorem dX4_canOf_61 : decode cX4_canOf 61 = .ok (.ireturn, 1) := by decide +kernel
theorem dX4_can_0 : decode cX4_can 0 = .ok (.aload_n 0, 1) := by decide +kernel
theorem dX4_can_1 : decode cX4_can 1 = .ok (.invokevirtual 122, 3) := by decide +kernel
theorem dX4_can_4 : decode cX4_can 4 = .ok (.ifCond .eq 8, 3) := by decide +kernel
theorem dX4_can_7 : decode cX4_can 7 = .ok (.bipush (-103), 2) := by decide +kernel
theorem dX4_can_9 : decode cX4_can 9 = .ok (.goto 7, 3) := by decide +kernel
theorem dX4_can_12 : decode cX4_can 12 = .ok (.aload_n 0, 1) := by decide +kernel
theorem dX4_can_13 : decode cX4_can 13 = .ok (.invokevirtual 136, 3) := by decide +kernel
theorem dX4_can_16 : decode cX4_can 16 = .ok (.ireturn, 1) := by decide +kernel
theorem dX4_endless_0 : decode cX4_endless 0 = .ok (.aload_n 0, 1) := by decide +kernel
theorem dX4_endless_1 : decode cX4_endless 1 = .ok (.iload_n 1, 1) := by decide +kernel
theorem dX4_endless_2 : decode cX4_endless 2 = .ok (.invokevirtual 113, 3) := by decide +kernel
theorem dX4_endless_5 : decode cX4_endless 5 = .ok (.ifCond .ne 6, 3) := by decide +kernel
theorem dX4_endless_8 : decode cX4_endless 8 = .ok (.bipush (-101), 2) := by decide +kernel
theorem dX4_endless_10 : decode cX4_endless 10 = .ok (.ireturn, 1) := by decide +kernel
theorem dX4_endless_11 : decode cX4_endless 11 = .ok (.iload_n 2, 1) := by decide +kernel
theorem dX4_endless_12 : decode cX4_endless 12 = .ok (.invokestatic 126, 3) := by decide +kernel
theorem dX4_endless_15 : decode cX4_endless 15 = .ok (.ifCond .eq 15, 3) := by decide +kernel
theorem dX4_endless_18 : decode cX4_endless 18 = .ok (.iload_n 3, 1) := by decide +kernel
theorem dX4_endless_19 : decode cX4_endless 19 = .ok (.i2l, 1) := by decide +kernel
theorem dX4_endless_20 : decode cX4_endless 20 = .ok (.lconst 0, 1) := by decide +kernel
theorem dX4_endless_21 : decode cX4_endless 21 = .ok (.ldc2_w 139, 3) := by decide +kernel
theorem dX4_endless_24 : decode cX4_endless 24 = .ok (.invokestatic 58, 3) := by decide +kernel
theorem dX4_endless_27 : decode cX4_endless 27 = .ok (.ifCond .ne 6, 3) := by decide +kernel
theorem dX4_endless_30 : decode cX4_endless 30 = .ok (.bipush (-102), 2) := by decide +kernel
theorem dX4_endless_32 : decode cX4_endless 32 = .ok (.ireturn, 1) := by decide +kernel
theorem dX4_endless_33 : decode cX4_endless 33 = .ok (.aload_n 0, 1) := by decide +kernel
theorem dX4_endless_34 : decode cX4_endless 34 = .ok (.invokevirtual 129, 3) := by decide +kernel
theorem dX4_endless_37 : decode cX4_endless 37 = .ok (.iconst 0, 1) := by decide +kernel
theorem dX4_endless_38 : decode cX4_endless 38 = .ok (.istore 4, 2) := by decide +kernel
theorem dX4_endless_40 : decode cX4_endless 40 = .ok (.iload 4, 2) := by decide +kernel
theorem dX4_endless_42 : decode cX4_endless 42 = .ok (.bipush 48, 2) := by decide +kernel
theorem dX4_endless_44 : decode cX4_endless 44 = .ok (.if_icmp .ge 17, 3) := by decide +kernel
theorem dX4_endless_47 : decode cX4_endless 47 = .ok (.aload_n 0, 1) := by decide +kernel
theorem dX4_endless_48 : decode cX4_endless 48 = .ok (.getfield 28, 3) := by decide +kernel
theorem dX4_endless_51 : decode cX4_endless 51 = .ok (.iload 4, 2) := by decide +kernel
theorem dX4_endless_53 : decode cX4_endless 53 = .ok (.iconst (-1), 1) := by decide +kernel
theorem dX4_endless_54 : decode cX4_endless 54 = .ok (.iastore, 1) := by decide +kernel
theorem dX4_endless_55 : decode cX4_endless 55 = .ok (.iinc 4 1, 3) := by decide +kernel
theorem dX4_endless_58 : decode cX4_endless 58 = .ok (.goto (-18), 3) := by decide +kernel
theorem dX4_endless_61 : decode cX4_endless 61 = .ok (.iload_n 1, 1) := by decide +kernel
theorem dX4_endless_62 : decode cX4_endless 62 = .ok (.istore 4, 2) := by decide +kernel
theorem dX4_endless_64 : decode cX4_endless 64 = .ok (.iload_n 2, 1) := by decide +kernel
theorem dX4_endless_65 : decode cX4_endless 65 = .ok (.istore 5, 2) := by decide +kernel
theorem dX4_endless_67 : decode cX4_endless 67 = .ok (.iconst 0, 1) := by decide +kernel
theorem dX4_endless_68 : decode cX4_endless 68 = .ok (.istore 6, 2) := by decide +kernel
theorem dX4_endless_70 : decode cX4_endless 70 = .ok (.aload_n 0, 1) := by decide +kernel
theorem dX4_endless_71 : decode cX4_endless 71 = .ok (.getfield 28, 3) := by decide +kernel
theorem dX4_endless_74 : decode cX4_endless 74 = .ok (.bipush 8, 2) := by decide +kernel
theorem dX4_endless_76 : decode cX4_endless 76 = .ok (.iload 4, 2) := by decide +kernel
theorem dX4_endless_78 : decode cX4_endless 78 = .ok (.imul, 1) := by decide +kernel
theorem dX4_endless_79 : decode cX4_endless 79 = .ok (.iload 5, 2) := by decide +kernel
theorem dX4_endless_81 : decode cX4_endless 81 = .ok (.iadd, 1) := by decide +kernel
theorem dX4_endless_82 : decode cX4_endless 82 = .ok (.iaload, 1) := by decide +kernel
theorem dX4_endless_83 : decode cX4_endless 83 = .ok (.iconst (-1), 1) := by decide +kernel
theorem dX4_endless_84 : decode cX4_endless 84 = .ok (.if_icmp .ne 72, 3) := by decide +kernel
theorem dX4_endless_87 : decode cX4_endless 87 = .ok (.aload_n 0, 1) := by decide +kernel
theorem dX4_endless_88 : decode cX4_endless 88 = .ok (.getfield 28, 3) := by decide +kernel
theorem dX4_endless_91 : decode cX4_endless 91 = .ok (.bipush 8, 2) := by decide +kernel
theorem dX4_endless_93 : decode cX4_endless 93 = .ok (.iload 4, 2) := by decide +kernel
theorem dX4_endless_95 : decode cX4_endless 95 = .ok (.imul, 1) := by decide +kernel
theorem dX4_endless_96 : decode cX4_endless 96 = .ok (.iload 5, 2) := by decide +kernel
theorem dX4_endless_98 : decode cX4_endless 98 = .ok (.iadd, 1) := by decide +kernel
theorem dX4_endless_99 : decode cX4_endless 99 = .ok (.iload 6, 2) := by decide +kernel
theorem dX4_endless_101 : decode cX4_endless 101 = .ok (.iastore, 1) := by decide +kernel
theorem dX4_endless_102 : decode cX4_endless 102 = .ok (.iinc 6 1, 3) := by decide +kernel
theorem dX4_endless_105 : decode cX4_endless 105 = .ok (.aload_n 0, 1) := by decide +kernel
theorem dX4_endless_106 : decode cX4_endless 106 = .ok (.iload 4, 2) := by decide +kernel
theorem dX4_endless_108 : decode cX4_endless 108 = .ok (.iload 5, 2) := by decide +kernel
theorem dX4_endless_110 : decode cX4_endless 110 = .ok (.aload_n 0, 1) := by decide +kernel
theorem dX4_endless_111 : decode cX4_endless 111 = .ok (.getfield 91, 3) := by decide +kernel
theorem dX4_endless_114 : decode cX4_endless 114 = .ok (.invokevirtual 132, 3) := by decide +kernel
theorem dX4_endless_117 : decode cX4_endless 117 = .ok (.istore 7, 2) := by decide +kernel
theorem dX4_endless_119 : decode cX4_endless 119 = .ok (.iload 7, 2) := by decide +kernel
theorem dX4_endless_121 : decode cX4_endless 121 = .ok (.iload 5, 2) := by decide +kernel
theorem dX4_endless_123 : decode cX4_endless 123 = .ok (.if_icmp .ne 15, 3) := by decide +kernel
theorem dX4_endless_126 : decode cX4_endless 126 = .ok (.iload_n 3, 1) := by decide +kernel
theorem dX4_endless_127 : decode cX4_endless 127 = .ok (.iconst 2, 1) := by decide +kernel
theorem dX4_endless_128 : decode cX4_endless 128 = .ok (.if_icmp .ne 8, 3) := by decide +kernel
theorem dX4_endless_131 : decode cX4_endless 131 = .ok (.iload 6, 2) := by decide +kernel
theorem dX4_endless_133 : decode cX4_endless 133 = .ok (.goto 4, 3) := by decide +kernel
theorem dX4_endless_136 : decode cX4_endless 136 = .ok (.iconst (-1), 1) := by decide +kernel
theorem dX4_endless_137 : decode cX4_endless 137 = .ok (.ireturn, 1) := by decide +kernel
theorem dX4_endless_138 : decode cX4_endless 138 = .ok (.iload 4, 2) := by decide +kernel
theorem dX4_endless_140 : decode cX4_endless 140 = .ok (.iconst 1, 1) := by decide +kernel
theorem dX4_endless_141 : decode cX4_endless 141 = .ok (.iadd, 1) := by decide +kernel
theorem dX4_endless_142 : decode cX4_endless 142 = .ok (.aload_n 0, 1) := by decide +kernel
theorem dX4_endless_143 : decode cX4_endless 143 = .ok (.getfield 88, 3) := by decide +kernel
theorem dX4_endless_146 : decode cX4_endless 146 = .ok (.irem, 1) := by decide +kernel
theorem dX4_endless_147 : decode cX4_endless 147 = .ok (.istore 4, 2) := by decide +kernel
theorem dX4_endless_149 : decode cX4_endless 149 = .ok (.iload 7, 2) := by decide +kernel
theorem dX4_endless_151 : decode cX4_endless 151 = .ok (.istore 5, 2) := by decide +kernel
theorem dX4_endless_153 : decode cX4_endless 153 = .ok (.goto (-83), 3) := by decide +kernel
theorem dX4_endless_156 : decode cX4_endless 156 = .ok (.iload_n 3, 1) := by decide +kernel
theorem dX4_endless_157 : decode cX4_endless 157 = .ok (.ifCond .ne 8, 3) := by decide +kernel
theorem dX4_endless_160 : decode cX4_endless 160 = .ok (.iload 6, 2) := by decide +kernel
theorem dX4_endless_162 : decode cX4_endless 162 = .ok (.goto 28, 3) := by decide +kernel
theorem dX4_endless_165 : decode cX4_endless 165 = .ok (.iload_n 3, 1) := by decide +kernel
theorem dX4_endless_166 : decode cX4_endless 166 = .ok (.iconst 1, 1) := by decide +kernel
theorem dX4_endless_167 : decode cX4_endless 167 = .ok (.if_icmp .ne 22, 3) := by decide +kernel
theorem dX4_endless_170 : decode cX4_endless 170 = .ok (.iload 6, 2) := by decide +kernel
theorem dX4_endless_172 : decode cX4_endless 172 = .ok (.aload_n 0, 1) := by decide +kernel
theorem dX4_endless_173 : decode cX4_endless 173 = .ok (.getfield 28, 3) := by decide +kernel
theorem dX4_endless_176 : decode cX4_endless 176 = .ok (.bipush 8, 2) := by decide +kernel
theorem dX4_endless_178 : decode cX4_endless 178 = .ok (.iload 4, 2) := by decide +kernel
theorem dX4_endless_180 : decode cX4_endless 180 = .ok (.imul, 1) := by decide +kernel
theorem dX4_endless_181 : decode cX4_endless 181 = .ok (.iload 5, 2) := by decide +kernel
theorem dX4_endless_183 : decode cX4_endless 183 = .ok (.iadd, 1) := by decide +kernel
theorem dX4_endless_184 : decode cX4_endless 184 = .ok (.iaload, 1) := by decide +kernel
theorem dX4_endless_185 : decode cX4_endless 185 = .ok (.isub, 1) := by decide +kernel
theorem dX4_endless_186 : decode cX4_endless 186 = .ok (.goto 4, 3) := by decide +kernel
theorem dX4_endless_189 : decode cX4_endless 189 = .ok (.iconst (-1), 1) := by decide +kernel
theorem dX4_endless_190 : decode cX4_endless 190 = .ok (.ireturn, 1) := by decide +kernel
theorem dX4_isOrder_0 : decode cX4_isOrder 0 = .ok (.iload_n 1, 1) := by decide +kernel
theorem dX4_isOrder_1 : decode cX4_isOrder 1 = .ok (.istore_n 2, 1) := by decide +kernel
theorem dX4_isOrder_2 : decode cX4_isOrder 2 = .ok (.iconst 0, 1) := by decide +kernel
theorem dX4_isOrder_3 : decode cX4_isOrder 3 = .ok (.istore_n 3, 1) := by decide +kernel
theorem dX4_isOrder_4 : decode cX4_isOrder 4 = .ok (.iconst 0, 1) := by decide +kernel
theorem dX4_isOrder_5 : decode cX4_isOrder 5 = .ok (.istore 4, 2) := by decide +kernel
theorem dX4_isOrder_7 : decode cX4_isOrder 7 = .ok (.iload 4, 2) := by decide +kernel
theorem dX4_isOrder_9 : decode cX4_isOrder 9 = .ok (.aload_n 0, 1) := by decide +kernel
theorem dX4_isOrder_10 : decode cX4_isOrder 10 = .ok (.getfield 88, 3) := by decide +kernel
theorem dX4_isOrder_13 : decode cX4_isOrder 13 = .ok (.if_icmp .ge 41, 3) := by decide +kernel
theorem dX4_isOrder_16 : decode cX4_isOrder 16 = .ok (.aload_n 0, 1) := by decide +kernel
theorem dX4_isOrder_17 : decode cX4_isOrder 17 = .ok (.getfield 31, 3) := by decide +kernel
theorem dX4_isOrder_20 : decode cX4_isOrder 20 = .ok (.iload 4, 2) := by decide +kernel
theorem dX4_isOrder_22 : decode cX4_isOrder 22 = .ok (.iload_n 2, 1) := by decide +kernel
theorem dX4_isOrder_23 : decode cX4_isOrder 23 = .ok (.aload_n 0, 1) := by decide +kernel
theorem dX4_isOrder_24 : decode cX4_isOrder 24 = .ok (.getfield 88, 3) := by decide +kernel
theorem dX4_isOrder_27 : decode cX4_isOrder 27 = .ok (.irem, 1) := by decide +kernel
theorem dX4_isOrder_28 : decode cX4_isOrder 28 = .ok (.iastore, 1) := by decide +kernel
theorem dX4_isOrder_29 : decode cX4_isOrder 29 = .ok (.iload_n 3, 1) := by decide +kernel
theorem dX4_isOrder_30 : decode cX4_isOrder 30 = .ok (.iconst 1, 1) := by decide +kernel
theorem dX4_isOrder_31 : decode cX4_isOrder 31 = .ok (.aload_n 0, 1) := by decide +kernel
theorem dX4_isOrder_32 : decode cX4_isOrder 32 = .ok (.getfield 31, 3) := by decide +kernel
theorem dX4_isOrder_35 : decode cX4_isOrder 35 = .ok (.iload 4, 2) := by decide +kernel
theorem dX4_isOrder_37 : decode cX4_isOrder 37 = .ok (.iaload, 1) := by decide +kernel
theorem dX4_isOrder_38 : decode cX4_isOrder 38 = .ok (.ishl, 1) := by decide +kernel
theorem dX4_isOrder_39 : decode cX4_isOrder 39 = .ok (.ior, 1) := by decide +kernel
theorem dX4_isOrder_40 : decode cX4_isOrder 40 = .ok (.istore_n 3, 1) := by decide +kernel
theorem dX4_isOrder_41 : decode cX4_isOrder 41 = .ok (.iload_n 2, 1) := by decide +kernel
theorem dX4_isOrder_42 : decode cX4_isOrder 42 = .ok (.aload_n 0, 1) := by decide +kernel
theorem dX4_isOrder_43 : decode cX4_isOrder 43 = .ok (.getfield 88, 3) := by decide +kernel
theorem dX4_isOrder_46 : decode cX4_isOrder 46 = .ok (.idiv, 1) := by decide +kernel
theorem dX4_isOrder_47 : decode cX4_isOrder 47 = .ok (.istore_n 2, 1) := by decide +kernel
theorem dX4_isOrder_48 : decode cX4_isOrder 48 = .ok (.iinc 4 1, 3) := by decide +kernel
theorem dX4_isOrder_51 : decode cX4_isOrder 51 = .ok (.goto (-44), 3) := by decide +kernel
theorem dX4_isOrder_54 : decode cX4_isOrder 54 = .ok (.iload_n 3, 1) := by decide +kernel
theorem dX4_isOrder_55 : decode cX4_isOrder 55 = .ok (.iconst 1, 1) := by decide +kernel
theorem dX4_isOrder_56 : decode cX4_isOrder 56 = .ok (.aload_n 0, 1) := by decide +kernel
theorem dX4_isOrder_57 : decode cX4_isOrder 57 = .ok (.getfield 88, 3) := by decide +kernel
theorem dX4_isOrder_60 : decode cX4_isOrder 60 = .ok (.ishl, 1) := by decide +kernel
theorem dX4_isOrder_61 : decode cX4_isOrder 61 = .ok (.iconst 1, 1) := by decide +kernel
theorem dX4_isOrder_62 : decode cX4_isOrder 62 = .ok (.isub, 1) := by decide +kernel
theorem dX4_isOrder_63 : decode cX4_isOrder 63 = .ok (.if_icmp .ne 7, 3) := by decide +kernel
theorem dX4_isOrder_66 : decode cX4_isOrder 66 = .ok (.iconst 1, 1) := by decide +kernel
theorem dX4_isOrder_67 : decode cX4_isOrder 67 = .ok (.goto 4, 3) := by decide +kernel
theorem dX4_isOrder_70 : decode cX4_isOrder 70 = .ok (.iconst 0, 1) := by decide +kernel
theorem dX4_isOrder_71 : decode cX4_isOrder 71 = .ok (.ireturn, 1) := by decide +kernel
theorem dX4_exchanges_0 : decode cX4_exchanges 0 = .ok (.iconst 0, 1) := by decide +kernel
theorem dX4_exchanges_1 : decode cX4_exchanges 1 = .ok (.istore_n 1, 1) := by decide +kernel
theorem dX4_exchanges_2 : decode cX4_exchanges 2 = .ok (.iconst 0, 1) := by decide +kernel
theorem dX4_exchanges_3 : decode cX4_exchanges 3 = .ok (.istore_n 2, 1) := by decide +kernel
theorem dX4_exchanges_4 : decode cX4_exchanges 4 = .ok (.iconst 0, 1) := by decide +kernel
theorem dX4_exchanges_5 : decode cX4_exchanges 5 = .ok (.istore_n 3, 1) := by decide +kernel
theorem dX4_exchanges_6 : decode cX4_exchanges 6 = .ok (.iload_n 3, 1) := by decide +kernel
theorem dX4_exchanges_7 : decode cX4_exchanges 7 = .ok (.aload_n 0, 1) := by decide +kernel
theorem dX4_exchanges_8 : decode cX4_exchanges 8 = .ok (.getfield 88, 3) := by decide +kernel
theorem dX4_exchanges_11 : decode cX4_exchanges 11 = .ok (.if_icmp .ge 56, 3) := by decide +kernel
theorem dX4_exchanges_14 : decode cX4_exchanges 14 = .ok (.iload_n 1, 1) := by decide +kernel
theorem dX4_exchanges_15 : decode cX4_exchanges 15 = .ok (.iload_n 2, 1) := by decide +kernel
theorem dX4_exchanges_16 : decode cX4_exchanges 16 = .ok (.iload_n 3, 1) := by decide +kernel
theorem dX4_exchanges_17 : decode cX4_exchanges 17 = .ok (.ishr, 1) := by decide +kernel
theorem dX4_exchanges_18 : decode cX4_exchanges 18 = .ok (.iconst 1, 1) := by decide +kernel
theorem dX4_exchanges_19 : decode cX4_exchanges 19 = .ok (.iand, 1) := by decide +kernel
theorem dX4_exchanges_20 : decode cX4_exchanges 20 = .ok (.ifCond .ne 7, 3) := by decide +kernel
theorem dX4_exchanges_23 : decode cX4_exchanges 23 = .ok (.iconst 1, 1) := by decide +kernel
theorem dX4_exchanges_24 : decode cX4_exchanges 24 = .ok (.goto 4, 3) := by decide +kernel
theorem dX4_exchanges_27 : decode cX4_exchanges 27 = .ok (.iconst 0, 1) := by decide +kernel
theorem dX4_exchanges_28 : decode cX4_exchanges 28 = .ok (.iadd, 1) := by decide +kernel
theorem dX4_exchanges_29 : decode cX4_exchanges 29 = .ok (.istore_n 1, 1) := by decide +kernel
theorem dX4_exchanges_30 : decode cX4_exchanges 30 = .ok (.iload_n 3, 1) := by decide +kernel
theorem dX4_exchanges_31 : decode cX4_exchanges 31 = .ok (.istore 4, 2) := by decide +kernel
theorem dX4_exchanges_33 : decode cX4_exchanges 33 = .ok (.iload_n 2, 1) := by decide +kernel
theorem dX4_exchanges_34 : decode cX4_exchanges 34 = .ok (.iload 4, 2) := by decide +kernel
theorem dX4_exchanges_36 : decode cX4_exchanges 36 = .ok (.ishr, 1) := by decide +kernel
theorem dX4_exchanges_37 : decode cX4_exchanges 37 = .ok (.iconst 1, 1) := by decide +kernel
theorem dX4_exchanges_38 : decode cX4_exchanges 38 = .ok (.iand, 1) := by decide +kernel
theorem dX4_exchanges_39 : decode cX4_exchanges 39 = .ok (.ifCond .ne 22, 3) := by decide +kernel
theorem dX4_exchanges_42 : decode cX4_exchanges 42 = .ok (.iload_n 2, 1) := by decide +kernel
theorem dX4_exchanges_43 : decode cX4_exchanges 43 = .ok (.iconst 1, 1) := by decide +kernel
theorem dX4_exchanges_44 : decode cX4_exchanges 44 = .ok (.iload 4, 2) := by decide +kernel
theorem dX4_exchanges_46 : decode cX4_exchanges 46 = .ok (.ishl, 1) := by decide +kernel
theorem dX4_exchanges_47 : decode cX4_exchanges 47 = .ok (.ior, 1) := by decide +kernel
theorem dX4_exchanges_48 : decode cX4_exchanges 48 = .ok (.istore_n 2, 1) := by decide +kernel
theorem dX4_exchanges_49 : decode cX4_exchanges 49 = .ok (.aload_n 0, 1) := by decide +kernel
theorem dX4_exchanges_50 : decode cX4_exchanges 50 = .ok (.getfield 31, 3) := by decide +kernel
theorem dX4_exchanges_53 : decode cX4_exchanges 53 = .ok (.iload 4, 2) := by decide +kernel
theorem dX4_exchanges_55 : decode cX4_exchanges 55 = .ok (.iaload, 1) := by decide +kernel
theorem dX4_exchanges_56 : decode cX4_exchanges 56 = .ok (.istore 4, 2) := by decide +kernel
theorem dX4_exchanges_58 : decode cX4_exchanges 58 = .ok (.goto (-25), 3) := by decide +kernel
theorem dX4_exchanges_61 : decode cX4_exchanges 61 = .ok (.iinc 3 1, 3) := by decide +kernel
theorem dX4_exchanges_64 : decode cX4_exchanges 64 = .ok (.goto (-58), 3) := by decide +kernel
theorem dX4_exchanges_67 : decode cX4_exchanges 67 = .ok (.aload_n 0, 1) := by decide +kernel
theorem dX4_exchanges_68 : decode cX4_exchanges 68 = .ok (.getfield 88, 3) := by decide +kernel
theorem dX4_exchanges_71 : decode cX4_exchanges 71 = .ok (.iload_n 1, 1) := by decide +kernel
theorem dX4_exchanges_72 : decode cX4_exchanges 72 = .ok (.isub, 1) := by decide +kernel
theorem dX4_exchanges_73 : decode cX4_exchanges 73 = .ok (.ireturn, 1) := by decide +kernel
theorem dX4_seating_0 : decode cX4_seating 0 = .ok (.iload_n 1, 1) := by decide +kernel
theorem dX4_seating_1 : decode cX4_seating 1 = .ok (.invokestatic 126, 3) := by decide +kernel
theorem dX4_seating_4 : decode cX4_seating 4 = .ok (.ifCond .eq 20, 3) := by decide +kernel
theorem dX4_seating_7 : decode cX4_seating 7 = .ok (.iload_n 2, 1) := by decide +kernel
theorem dX4_seating_8 : decode cX4_seating 8 = .ok (.invokestatic 126, 3) := by decide +kernel
theorem dX4_seating_11 : decode cX4_seating 11 = .ok (.ifCond .eq 13, 3) := by decide +kernel
theorem dX4_seating_14 : decode cX4_seating 14 = .ok (.iload_n 3, 1) := by decide +kernel
theorem dX4_seating_15 : decode cX4_seating 15 = .ok (.i2l, 1) := by decide +kernel
theorem dX4_seating_16 : decode cX4_seating 16 = .ok (.lconst 0, 1) := by decide +kernel
theorem dX4_seating_17 : decode cX4_seating 17 = .ok (.lconst 1, 1) := by decide +kernel
theorem dX4_seating_18 : decode cX4_seating 18 = .ok (.invokestatic 58, 3) := by decide +kernel
theorem dX4_seating_21 : decode cX4_seating 21 = .ok (.ifCond .ne 6, 3) := by decide +kernel
theorem dX4_seating_24 : decode cX4_seating 24 = .ok (.bipush (-102), 2) := by decide +kernel
theorem dX4_seating_26 : decode cX4_seating 26 = .ok (.ireturn, 1) := by decide +kernel
theorem dX4_seating_27 : decode cX4_seating 27 = .ok (.aload_n 0, 1) := by decide +kernel
theorem dX4_seating_28 : decode cX4_seating 28 = .ok (.invokevirtual 122, 3) := by decide +kernel
theorem dX4_seating_31 : decode cX4_seating 31 = .ok (.ifCond .ne 12, 3) := by decide +kernel
theorem dX4_seating_34 : decode cX4_seating 34 = .ok (.aload_n 0, 1) := by decide +kernel
theorem dX4_seating_35 : decode cX4_seating 35 = .ok (.getfield 141, 3) := by decide +kernel
theorem dX4_seating_38 : decode cX4_seating 38 = .ok (.bipush 20, 2) := by decide +kernel
theorem dX4_seating_40 : decode cX4_seating 40 = .ok (.if_icmp .ne 6, 3) := by decide +kernel
theorem dX4_seating_43 : decode cX4_seating 43 = .ok (.bipush (-103), 2) := by decide +kernel
theorem dX4_seating_45 : decode cX4_seating 45 = .ok (.ireturn, 1) := by decide +kernel
theorem dX4_seating_46 : decode cX4_seating 46 = .ok (.aload_n 0, 1) := by decide +kernel
theorem dX4_seating_47 : decode cX4_seating 47 = .ok (.dup, 1) := by decide +kernel
theorem dX4_seating_48 : decode cX4_seating 48 = .ok (.getfield 141, 3) := by decide +kernel
theorem dX4_seating_51 : decode cX4_seating 51 = .ok (.iconst 1, 1) := by decide +kernel
theorem dX4_seating_52 : decode cX4_seating 52 = .ok (.iadd, 1) := by decide +kernel
theorem dX4_seating_53 : decode cX4_seating 53 = .ok (.putfield 141, 3) := by decide +kernel
theorem dX4_seating_56 : decode cX4_seating 56 = .ok (.iconst 1, 1) := by decide +kernel
theorem dX4_seating_57 : decode cX4_seating 57 = .ok (.istore 4, 2) := by decide +kernel
theorem dX4_seating_59 : decode cX4_seating 59 = .ok (.iconst 0, 1) := by decide +kernel
theorem dX4_seating_60 : decode cX4_seating 60 = .ok (.istore 5, 2) := by decide +kernel
theorem dX4_seating_62 : decode cX4_seating 62 = .ok (.iload 5, 2) := by decide +kernel
theorem dX4_seating_64 : decode cX4_seating 64 = .ok (.aload_n 0, 1) := by decide +kernel
theorem dX4_seating_65 : decode cX4_seating 65 = .ok (.getfield 88, 3) := by decide +kernel
theorem dX4_seating_68 : decode cX4_seating 68 = .ok (.if_icmp .ge 18, 3) := by decide +kernel
theorem dX4_seating_71 : decode cX4_seating 71 = .ok (.iload 4, 2) := by decide +kernel
theorem dX4_seating_73 : decode cX4_seating 73 = .ok (.aload_n 0, 1) := by decide +kernel
theorem dX4_seating_74 : decode cX4_seating 74 = .ok (.getfield 88, 3) := by decide +kernel
theorem dX4_seating_77 : decode cX4_seating 77 = .ok (.imul, 1) := by decide +kernel
theorem dX4_seating_78 : decode cX4_seating 78 = .ok (.istore 4, 2) := by decide +kernel
theorem dX4_seating_80 : decode cX4_seating 80 = .ok (.iinc 5 1, 3) := by decide +kernel
theorem dX4_seating_83 : decode cX4_seating 83 = .ok (.goto (-21), 3) := by decide +kernel
theorem dX4_seating_86 : decode cX4_seating 86 = .ok (.iconst (-1), 1) := by decide +kernel
theorem dX4_seating_87 : decode cX4_seating 87 = .ok (.istore 5, 2) := by decide +kernel
theorem dX4_seating_89 : decode cX4_seating 89 = .ok (.iconst (-1), 1) := by decide +kernel
theorem dX4_seating_90 : decode cX4_seating 90 = .ok (.istore 6, 2) := by decide +kernel
theorem dX4_seating_92 : decode cX4_seating 92 = .ok (.iconst 0, 1) := by decide +kernel
theorem dX4_seating_93 : decode cX4_seating 93 = .ok (.istore 7, 2) := by decide +kernel
theorem dX4_seating_95 : decode cX4_seating 95 = .ok (.iload 7, 2) := by decide +kernel
theorem dX4_seating_97 : decode cX4_seating 97 = .ok (.iload 4, 2) := by decide +kernel
theorem dX4_seating_99 : decode cX4_seating 99 = .ok (.if_icmp .ge 167, 3) := by decide +kernel
theorem dX4_seating_102 : decode cX4_seating 102 = .ok (.aload_n 0, 1) := by decide +kernel
theorem dX4_seating_103 : decode cX4_seating 103 = .ok (.iload 7, 2) := by decide +kernel
theorem dX4_seating_105 : decode cX4_seating 105 = .ok (.invokevirtual 144, 3) := by decide +kernel
theorem dX4_seating_108 : decode cX4_seating 108 = .ok (.ifCond .eq 152, 3) := by decide +kernel
theorem dX4_seating_111 : decode cX4_seating 111 = .ok (.iconst 0, 1) := by decide +kernel
theorem dX4_seating_112 : decode cX4_seating 112 = .ok (.istore 8, 2) := by decide +kernel
theorem dX4_seating_114 : decode cX4_seating 114 = .ok (.iload 8, 2) := by decide +kernel
theorem dX4_seating_116 : decode cX4_seating 116 = .ok (.aload_n 0, 1) := by decide +kernel
theorem dX4_seating_117 : decode cX4_seating 117 = .ok (.getfield 88, 3) := by decide +kernel
theorem dX4_seating_120 : decode cX4_seating 120 = .ok (.if_icmp .ge 63, 3) := by decide +kernel
theorem dX4_seating_123 : decode cX4_seating 123 = .ok (.aload_n 0, 1) := by decide +kernel
theorem dX4_seating_124 : decode cX4_seating 124 = .ok (.getfield 22, 3) := by decide +kernel
theorem dX4_seating_127 : decode cX4_seating 127 = .ok (.iload 8, 2) := by decide +kernel
theorem dX4_seating_129 : decode cX4_seating 129 = .ok (.aload_n 0, 1) := by decide +kernel
theorem dX4_seating_130 : decode cX4_seating 130 = .ok (.getfield 16, 3) := by decide +kernel
theorem dX4_seating_133 : decode cX4_seating 133 = .ok (.iconst 4, 1) := by decide +kernel
theorem dX4_seating_134 : decode cX4_seating 134 = .ok (.aload_n 0, 1) := by decide +kernel
theorem dX4_seating_135 : decode cX4_seating 135 = .ok (.getfield 19, 3) := by decide +kernel
theorem dX4_seating_138 : decode cX4_seating 138 = .ok (.aload_n 0, 1) := by decide +kernel
theorem dX4_seating_139 : decode cX4_seating 139 = .ok (.getfield 31, 3) := by decide +kernel
theorem dX4_seating_142 : decode cX4_seating 142 = .ok (.iload 8, 2) := by decide +kernel
theorem dX4_seating_144 : decode cX4_seating 144 = .ok (.iaload, 1) := by decide +kernel
theorem dX4_seating_145 : decode cX4_seating 145 = .ok (.iaload, 1) := by decide +kernel
theorem dX4_seating_146 : decode cX4_seating 146 = .ok (.imul, 1) := by decide +kernel
theorem dX4_seating_147 : decode cX4_seating 147 = .ok (.iaload, 1) := by decide +kernel
theorem dX4_seating_148 : decode cX4_seating 148 = .ok (.iastore, 1) := by decide +kernel
theorem dX4_seating_149 : decode cX4_seating 149 = .ok (.aload_n 0, 1) := by decide +kernel
theorem dX4_seating_150 : decode cX4_seating 150 = .ok (.getfield 25, 3) := by decide +kernel
theorem dX4_seating_153 : decode cX4_seating 153 = .ok (.iload 8, 2) := by decide +kernel
theorem dX4_seating_155 : decode cX4_seating 155 = .ok (.aload_n 0, 1) := by decide +kernel
theorem dX4_seating_156 : decode cX4_seating 156 = .ok (.getfield 16, 3) := by decide +kernel
theorem dX4_seating_159 : decode cX4_seating 159 = .ok (.iconst 4, 1) := by decide +kernel
theorem dX4_seating_160 : decode cX4_seating 160 = .ok (.aload_n 0, 1) := by decide +kernel
theorem dX4_seating_161 : decode cX4_seating 161 = .ok (.getfield 19, 3) := by decide +kernel
theorem dX4_seating_164 : decode cX4_seating 164 = .ok (.aload_n 0, 1) := by decide +kernel
theorem dX4_seating_165 : decode cX4_seating 165 = .ok (.getfield 31, 3) := by decide +kernel
theorem dX4_seating_168 : decode cX4_seating 168 = .ok (.iload 8, 2) := by decide +kernel
theorem dX4_seating_170 : decode cX4_seating 170 = .ok (.iaload, 1) := by decide +kernel
theorem dX4_seating_171 : decode cX4_seating 171 = .ok (.iaload, 1) := by decide +kernel
theorem dX4_seating_172 : decode cX4_seating 172 = .ok (.imul, 1) := by decide +kernel
theorem dX4_seating_173 : decode cX4_seating 173 = .ok (.iconst 1, 1) := by decide +kernel
theorem dX4_seating_174 : decode cX4_seating 174 = .ok (.iadd, 1) := by decide +kernel
theorem dX4_seating_175 : decode cX4_seating 175 = .ok (.iaload, 1) := by decide +kernel
theorem dX4_seating_176 : decode cX4_seating 176 = .ok (.iastore, 1) := by decide +kernel
theorem dX4_seating_177 : decode cX4_seating 177 = .ok (.iinc 8 1, 3) := by decide +kernel
theorem dX4_seating_180 : decode cX4_seating 180 = .ok (.goto (-66), 3) := by decide +kernel
theorem dX4_seating_183 : decode cX4_seating 183 = .ok (.aload_n 0, 1) := by decide +kernel
theorem dX4_seating_184 : decode cX4_seating 184 = .ok (.iconst 0, 1) := by decide +kernel
theorem dX4_seating_185 : decode cX4_seating 185 = .ok (.iload_n 1, 1) := by decide +kernel
theorem dX4_seating_186 : decode cX4_seating 186 = .ok (.aload_n 0, 1) := by decide +kernel
theorem dX4_seating_187 : decode cX4_seating 187 = .ok (.getfield 91, 3) := by decide +kernel
theorem dX4_seating_190 : decode cX4_seating 190 = .ok (.invokevirtual 132, 3) := by decide +kernel
theorem dX4_seating_193 : decode cX4_seating 193 = .ok (.iload_n 2, 1) := by decide +kernel
theorem dX4_seating_194 : decode cX4_seating 194 = .ok (.if_icmp .ne 66, 3) := by decide +kernel
theorem dX4_seating_197 : decode cX4_seating 197 = .ok (.aload_n 0, 1) := by decide +kernel
theorem dX4_seating_198 : decode cX4_seating 198 = .ok (.invokevirtual 147, 3) := by decide +kernel
theorem dX4_seating_201 : decode cX4_seating 201 = .ok (.istore 8, 2) := by decide +kernel
theorem dX4_seating_203 : decode cX4_seating 203 = .ok (.iload 5, 2) := by decide +kernel
theorem dX4_seating_205 : decode cX4_seating 205 = .ok (.iconst (-1), 1) := by decide +kernel
theorem dX4_seating_206 : decode cX4_seating 206 = .ok (.if_icmp .eq 10, 3) := by decide +kernel
theorem dX4_seating_209 : decode cX4_seating 209 = .ok (.iload 8, 2) := by decide +kernel
theorem dX4_seating_211 : decode cX4_seating 211 = .ok (.iload 5, 2) := by decide +kernel
theorem dX4_seating_213 : decode cX4_seating 213 = .ok (.if_icmp .ge 7, 3) := by decide +kernel
theorem dX4_seating_216 : decode cX4_seating 216 = .ok (.iconst 1, 1) := by decide +kernel
theorem dX4_seating_217 : decode cX4_seating 217 = .ok (.goto 19, 3) := by decide +kernel
theorem dX4_seating_220 : decode cX4_seating 220 = .ok (.iload 8, 2) := by decide +kernel
theorem dX4_seating_222 : decode cX4_seating 222 = .ok (.iload 5, 2) := by decide +kernel
theorem dX4_seating_224 : decode cX4_seating 224 = .ok (.if_icmp .ne 10, 3) := by decide +kernel
theorem dX4_seating_227 : decode cX4_seating 227 = .ok (.iload 6, 2) := by decide +kernel
theorem dX4_seating_229 : decode cX4_seating 229 = .ok (.iconst 1, 1) := by decide +kernel
theorem dX4_seating_230 : decode cX4_seating 230 = .ok (.iadd, 1) := by decide +kernel
theorem dX4_seating_231 : decode cX4_seating 231 = .ok (.goto 5, 3) := by decide +kernel
theorem dX4_seating_234 : decode cX4_seating 234 = .ok (.iload 6, 2) := by decide +kernel
theorem dX4_seating_236 : decode cX4_seating 236 = .ok (.istore 6, 2) := by decide +kernel
theorem dX4_seating_238 : decode cX4_seating 238 = .ok (.iload 5, 2) := by decide +kernel
theorem dX4_seating_240 : decode cX4_seating 240 = .ok (.iconst (-1), 1) := by decide +kernel
theorem dX4_seating_241 : decode cX4_seating 241 = .ok (.if_icmp .eq 10, 3) := by decide +kernel
theorem dX4_seating_244 : decode cX4_seating 244 = .ok (.iload 8, 2) := by decide +kernel
theorem dX4_seating_246 : decode cX4_seating 246 = .ok (.iload 5, 2) := by decide +kernel
theorem dX4_seating_248 : decode cX4_seating 248 = .ok (.if_icmp .ge 8, 3) := by decide +kernel
theorem dX4_seating_251 : decode cX4_seating 251 = .ok (.iload 8, 2) := by decide +kernel
theorem dX4_seating_253 : decode cX4_seating 253 = .ok (.goto 5, 3) := by decide +kernel
theorem dX4_seating_256 : decode cX4_seating 256 = .ok (.iload 5, 2) := by decide +kernel
theorem dX4_seating_258 : decode cX4_seating 258 = .ok (.istore 5, 2) := by decide +kernel
theorem dX4_seating_260 : decode cX4_seating 260 = .ok (.iinc 7 1, 3) := by decide +kernel
theorem dX4_seating_263 : decode cX4_seating 263 = .ok (.goto (-168), 3) := by decide +kernel
theorem dX4_seating_266 : decode cX4_seating 266 = .ok (.iload_n 3, 1) := by decide +kernel
theorem dX4_seating_267 : decode cX4_seating 267 = .ok (.ifCond .ne 8, 3) := by decide +kernel
theorem dX4_seating_270 : decode cX4_seating 270 = .ok (.iload 5, 2) := by decide +kernel
theorem dX4_seating_272 : decode cX4_seating 272 = .ok (.goto 5, 3) := by decide +kernel
theorem dX4_seating_275 : decode cX4_seating 275 = .ok (.iload 6, 2) := by decide +kernel
theorem dX4_seating_277 : decode cX4_seating 277 = .ok (.ireturn, 1) := by decide +kernel
theorem dX4_term_0 : decode cX4_term 0 = .ok (.iload_n 0, 1) := by decide +kernel
theorem dX4_term_1 : decode cX4_term 1 = .ok (.istore_n 3, 1) := by decide +kernel
theorem dX4_term_2 : decode cX4_term 2 = .ok (.iload_n 1, 1) := by decide +kernel
theorem dX4_term_3 : decode cX4_term 3 = .ok (.istore 4, 2) := by decide +kernel
theorem dX4_term_5 : decode cX4_term 5 = .ok (.iload_n 3, 1) := by decide +kernel
theorem dX4_term_6 : decode cX4_term 6 = .ok (.ifCond .eq 18, 3) := by decide +kernel
theorem dX4_term_9 : decode cX4_term 9 = .ok (.iload 4, 2) := by decide +kernel
theorem dX4_term_11 : decode cX4_term 11 = .ok (.iload_n 3, 1) := by decide +kernel
theorem dX4_term_12 : decode cX4_term 12 = .ok (.irem, 1) := by decide +kernel
theorem dX4_term_13 : decode cX4_term 13 = .ok (.istore 5, 2) := by decide +kernel
theorem dX4_term_15 : decode cX4_term 15 = .ok (.iload_n 3, 1) := by decide +kernel
theorem dX4_term_16 : decode cX4_term 16 = .ok (.istore 4, 2) := by decide +kernel
theorem dX4_term_18 : decode cX4_term 18 = .ok (.iload 5, 2) := by decide +kernel
theorem dX4_term_20 : decode cX4_term 20 = .ok (.istore_n 3, 1) := by decide +kernel
theorem dX4_term_21 : decode cX4_term 21 = .ok (.goto (-16), 3) := by decide +kernel
theorem dX4_term_24 : decode cX4_term 24 = .ok (.iload_n 2, 1) := by decide +kernel
theorem dX4_term_25 : decode cX4_term 25 = .ok (.ifCond .ne 10, 3) := by decide +kernel
theorem dX4_term_28 : decode cX4_term 28 = .ok (.iload_n 0, 1) := by decide +kernel
theorem dX4_term_29 : decode cX4_term 29 = .ok (.iload 4, 2) := by decide +kernel
theorem dX4_term_31 : decode cX4_term 31 = .ok (.idiv, 1) := by decide +kernel
theorem dX4_term_32 : decode cX4_term 32 = .ok (.goto 7, 3) := by decide +kernel
theorem dX4_term_35 : decode cX4_term 35 = .ok (.iload_n 1, 1) := by decide +kernel
theorem dX4_term_36 : decode cX4_term 36 = .ok (.iload 4, 2) := by decide +kernel
theorem dX4_term_38 : decode cX4_term 38 = .ok (.idiv, 1) := by decide +kernel
theorem dX4_term_39 : decode cX4_term 39 = .ok (.ireturn, 1) := by decide +kernel
theorem dX4_nestlings_0 : decode cX4_nestlings 0 = .ok (.aload_n 0, 1) := by decide +kernel
theorem dX4_nestlings_1 : decode cX4_nestlings 1 = .ok (.iload_n 2, 1) := by decide +kernel
theorem dX4_nestlings_2 : decode cX4_nestlings 2 = .ok (.invokevirtual 113, 3) := by decide +kernel
theorem dX4_nestlings_5 : decode cX4_nestlings 5 = .ok (.ifCond .ne 6, 3) := by decide +kernel
theorem dX4_nestlings_8 : decode cX4_nestlings 8 = .ok (.bipush (-101), 2) := by decide +kernel
theorem dX4_nestlings_10 : decode cX4_nestlings 10 = .ok (.ireturn, 1) := by decide +kernel
