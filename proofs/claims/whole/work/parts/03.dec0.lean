theorem dX0_init_0 : decode cX0_init 0 = .ok (.aload_n 0, 1) := by decide +kernel
theorem dX0_init_1 : decode cX0_init 1 = .ok (.invokespecial 3, 3) := by decide +kernel
theorem dX0_init_4 : decode cX0_init 4 = .ok (.aload_n 0, 1) := by decide +kernel
theorem dX0_init_5 : decode cX0_init 5 = .ok (.new 9, 3) := by decide +kernel
theorem dX0_init_8 : decode cX0_init 8 = .ok (.dup, 1) := by decide +kernel
theorem dX0_init_9 : decode cX0_init 9 = .ok (.invokespecial 11, 3) := by decide +kernel
theorem dX0_init_12 : decode cX0_init 12 = .ok (.putfield 12, 3) := by decide +kernel
theorem dX0_init_15 : decode cX0_init 15 = .ok (.aload_n 0, 1) := by decide +kernel
theorem dX0_init_16 : decode cX0_init 16 = .ok (.new 18, 3) := by decide +kernel
theorem dX0_init_19 : decode cX0_init 19 = .ok (.dup, 1) := by decide +kernel
theorem dX0_init_20 : decode cX0_init 20 = .ok (.invokespecial 20, 3) := by decide +kernel
theorem dX0_init_23 : decode cX0_init 23 = .ok (.putfield 21, 3) := by decide +kernel
theorem dX0_init_26 : decode cX0_init 26 = .ok (.aload_n 0, 1) := by decide +kernel
theorem dX0_init_27 : decode cX0_init 27 = .ok (.new 25, 3) := by decide +kernel
theorem dX0_init_30 : decode cX0_init 30 = .ok (.dup, 1) := by decide +kernel
theorem dX0_init_31 : decode cX0_init 31 = .ok (.bipush 100, 2) := by decide +kernel
theorem dX0_init_33 : decode cX0_init 33 = .ok (.invokespecial 27, 3) := by decide +kernel
theorem dX0_init_36 : decode cX0_init 36 = .ok (.putfield 30, 3) := by decide +kernel
theorem dX0_init_39 : decode cX0_init 39 = .ok (.aload_n 0, 1) := by decide +kernel
theorem dX0_init_40 : decode cX0_init 40 = .ok (.new 25, 3) := by decide +kernel
theorem dX0_init_43 : decode cX0_init 43 = .ok (.dup, 1) := by decide +kernel
theorem dX0_init_44 : decode cX0_init 44 = .ok (.bipush 100, 2) := by decide +kernel
theorem dX0_init_46 : decode cX0_init 46 = .ok (.invokespecial 27, 3) := by decide +kernel
theorem dX0_init_49 : decode cX0_init 49 = .ok (.putfield 34, 3) := by decide +kernel
theorem dX0_init_52 : decode cX0_init 52 = .ok (.return_, 1) := by decide +kernel
theorem dX0_turnsNow_0 : decode cX0_turnsNow 0 = .ok (.aload_n 1, 1) := by decide +kernel
theorem dX0_turnsNow_1 : decode cX0_turnsNow 1 = .ok (.iload_n 3, 1) := by decide +kernel
theorem dX0_turnsNow_2 : decode cX0_turnsNow 2 = .ok (.aload_n 1, 1) := by decide +kernel
theorem dX0_turnsNow_3 : decode cX0_turnsNow 3 = .ok (.getfield 37, 3) := by decide +kernel
theorem dX0_turnsNow_6 : decode cX0_turnsNow 6 = .ok (.aload_n 0, 1) := by decide +kernel
theorem dX0_turnsNow_7 : decode cX0_turnsNow 7 = .ok (.getfield 21, 3) := by decide +kernel
theorem dX0_turnsNow_10 : decode cX0_turnsNow 10 = .ok (.invokevirtual 41, 3) := by decide +kernel
theorem dX0_turnsNow_13 : decode cX0_turnsNow 13 = .ok (.aload_n 2, 1) := by decide +kernel
theorem dX0_turnsNow_14 : decode cX0_turnsNow 14 = .ok (.aload_n 0, 1) := by decide +kernel
theorem dX0_turnsNow_15 : decode cX0_turnsNow 15 = .ok (.getfield 21, 3) := by decide +kernel
theorem dX0_turnsNow_18 : decode cX0_turnsNow 18 = .ok (.invokevirtual 45, 3) := by decide +kernel
theorem dX0_turnsNow_21 : decode cX0_turnsNow 21 = .ok (.ireturn, 1) := by decide +kernel
theorem dX0_happyNext_0 : decode cX0_happyNext 0 = .ok (.aload_n 1, 1) := by decide +kernel
theorem dX0_happyNext_1 : decode cX0_happyNext 1 = .ok (.iload_n 3, 1) := by decide +kernel
theorem dX0_happyNext_2 : decode cX0_happyNext 2 = .ok (.iload 4, 2) := by decide +kernel
theorem dX0_happyNext_4 : decode cX0_happyNext 4 = .ok (.aload_n 0, 1) := by decide +kernel
theorem dX0_happyNext_5 : decode cX0_happyNext 5 = .ok (.getfield 21, 3) := by decide +kernel
theorem dX0_happyNext_8 : decode cX0_happyNext 8 = .ok (.invokevirtual 41, 3) := by decide +kernel
theorem dX0_happyNext_11 : decode cX0_happyNext 11 = .ok (.aload_n 0, 1) := by decide +kernel
theorem dX0_happyNext_12 : decode cX0_happyNext 12 = .ok (.getfield 21, 3) := by decide +kernel
theorem dX0_happyNext_15 : decode cX0_happyNext 15 = .ok (.aload_n 2, 1) := by decide +kernel
theorem dX0_happyNext_16 : decode cX0_happyNext 16 = .ok (.invokevirtual 51, 3) := by decide +kernel
theorem dX0_happyNext_19 : decode cX0_happyNext 19 = .ok (.ireturn, 1) := by decide +kernel
theorem dX0_happyAhead_0 : decode cX0_happyAhead 0 = .ok (.aload_n 1, 1) := by decide +kernel
theorem dX0_happyAhead_1 : decode cX0_happyAhead 1 = .ok (.iload_n 3, 1) := by decide +kernel
theorem dX0_happyAhead_2 : decode cX0_happyAhead 2 = .ok (.iload 5, 2) := by decide +kernel
theorem dX0_happyAhead_4 : decode cX0_happyAhead 4 = .ok (.aload_n 0, 1) := by decide +kernel
theorem dX0_happyAhead_5 : decode cX0_happyAhead 5 = .ok (.getfield 21, 3) := by decide +kernel
theorem dX0_happyAhead_8 : decode cX0_happyAhead 8 = .ok (.invokevirtual 41, 3) := by decide +kernel
theorem dX0_happyAhead_11 : decode cX0_happyAhead 11 = .ok (.iconst 0, 1) := by decide +kernel
theorem dX0_happyAhead_12 : decode cX0_happyAhead 12 = .ok (.istore 6, 2) := by decide +kernel
theorem dX0_happyAhead_14 : decode cX0_happyAhead 14 = .ok (.iload 6, 2) := by decide +kernel
theorem dX0_happyAhead_16 : decode cX0_happyAhead 16 = .ok (.iload 4, 2) := by decide +kernel
theorem dX0_happyAhead_18 : decode cX0_happyAhead 18 = .ok (.if_icmp .ge 31, 3) := by decide +kernel
theorem dX0_happyAhead_21 : decode cX0_happyAhead 21 = .ok (.aload_n 0, 1) := by decide +kernel
theorem dX0_happyAhead_22 : decode cX0_happyAhead 22 = .ok (.getfield 21, 3) := by decide +kernel
theorem dX0_happyAhead_25 : decode cX0_happyAhead 25 = .ok (.aload_n 0, 1) := by decide +kernel
theorem dX0_happyAhead_26 : decode cX0_happyAhead 26 = .ok (.getfield 21, 3) := by decide +kernel
theorem dX0_happyAhead_29 : decode cX0_happyAhead 29 = .ok (.aload_n 2, 1) := by decide +kernel
theorem dX0_happyAhead_30 : decode cX0_happyAhead 30 = .ok (.invokevirtual 55, 3) := by decide +kernel
theorem dX0_happyAhead_33 : decode cX0_happyAhead 33 = .ok (.putfield 58, 3) := by decide +kernel
theorem dX0_happyAhead_36 : decode cX0_happyAhead 36 = .ok (.aload_n 0, 1) := by decide +kernel
theorem dX0_happyAhead_37 : decode cX0_happyAhead 37 = .ok (.getfield 21, 3) := by decide +kernel
theorem dX0_happyAhead_40 : decode cX0_happyAhead 40 = .ok (.invokevirtual 61, 3) := by decide +kernel
theorem dX0_happyAhead_43 : decode cX0_happyAhead 43 = .ok (.iinc 6 1, 3) := by decide +kernel
theorem dX0_happyAhead_46 : decode cX0_happyAhead 46 = .ok (.goto (-32), 3) := by decide +kernel
theorem dX0_happyAhead_49 : decode cX0_happyAhead 49 = .ok (.aload_n 0, 1) := by decide +kernel
theorem dX0_happyAhead_50 : decode cX0_happyAhead 50 = .ok (.getfield 21, 3) := by decide +kernel
theorem dX0_happyAhead_53 : decode cX0_happyAhead 53 = .ok (.getfield 58, 3) := by decide +kernel
theorem dX0_happyAhead_56 : decode cX0_happyAhead 56 = .ok (.ireturn, 1) := by decide +kernel
theorem dX0_firstClaim_0 : decode cX0_firstClaim 0 = .ok (.aload_n 1, 1) := by decide +kernel
theorem dX0_firstClaim_1 : decode cX0_firstClaim 1 = .ok (.iload_n 3, 1) := by decide +kernel
theorem dX0_firstClaim_2 : decode cX0_firstClaim 2 = .ok (.iload 4, 2) := by decide +kernel
theorem dX0_firstClaim_4 : decode cX0_firstClaim 4 = .ok (.aload_n 0, 1) := by decide +kernel
theorem dX0_firstClaim_5 : decode cX0_firstClaim 5 = .ok (.getfield 21, 3) := by decide +kernel
theorem dX0_firstClaim_8 : decode cX0_firstClaim 8 = .ok (.invokevirtual 41, 3) := by decide +kernel
theorem dX0_firstClaim_11 : decode cX0_firstClaim 11 = .ok (.iconst 1, 1) := by decide +kernel
theorem dX0_firstClaim_12 : decode cX0_firstClaim 12 = .ok (.istore 5, 2) := by decide +kernel
theorem dX0_firstClaim_14 : decode cX0_firstClaim 14 = .ok (.iload 5, 2) := by decide +kernel
theorem dX0_firstClaim_16 : decode cX0_firstClaim 16 = .ok (.bipush 40, 2) := by decide +kernel
theorem dX0_firstClaim_18 : decode cX0_firstClaim 18 = .ok (.if_icmp .gt 48, 3) := by decide +kernel
theorem dX0_firstClaim_21 : decode cX0_firstClaim 21 = .ok (.aload_n 0, 1) := by decide +kernel
theorem dX0_firstClaim_22 : decode cX0_firstClaim 22 = .ok (.getfield 21, 3) := by decide +kernel
theorem dX0_firstClaim_25 : decode cX0_firstClaim 25 = .ok (.aload_n 0, 1) := by decide +kernel
theorem dX0_firstClaim_26 : decode cX0_firstClaim 26 = .ok (.getfield 21, 3) := by decide +kernel
theorem dX0_firstClaim_29 : decode cX0_firstClaim 29 = .ok (.aload_n 2, 1) := by decide +kernel
theorem dX0_firstClaim_30 : decode cX0_firstClaim 30 = .ok (.invokevirtual 55, 3) := by decide +kernel
theorem dX0_firstClaim_33 : decode cX0_firstClaim 33 = .ok (.putfield 58, 3) := by decide +kernel
theorem dX0_firstClaim_36 : decode cX0_firstClaim 36 = .ok (.aload_n 0, 1) := by decide +kernel
theorem dX0_firstClaim_37 : decode cX0_firstClaim 37 = .ok (.getfield 21, 3) := by decide +kernel
theorem dX0_firstClaim_40 : decode cX0_firstClaim 40 = .ok (.invokevirtual 61, 3) := by decide +kernel
theorem dX0_firstClaim_43 : decode cX0_firstClaim 43 = .ok (.aload_n 0, 1) := by decide +kernel
theorem dX0_firstClaim_44 : decode cX0_firstClaim 44 = .ok (.getfield 21, 3) := by decide +kernel
theorem dX0_firstClaim_47 : decode cX0_firstClaim 47 = .ok (.getfield 58, 3) := by decide +kernel
theorem dX0_firstClaim_50 : decode cX0_firstClaim 50 = .ok (.aload_n 1, 1) := by decide +kernel
theorem dX0_firstClaim_51 : decode cX0_firstClaim 51 = .ok (.getfield 64, 3) := by decide +kernel
theorem dX0_firstClaim_54 : decode cX0_firstClaim 54 = .ok (.if_icmp .ge 6, 3) := by decide +kernel
theorem dX0_firstClaim_57 : decode cX0_firstClaim 57 = .ok (.iload 5, 2) := by decide +kernel
theorem dX0_firstClaim_59 : decode cX0_firstClaim 59 = .ok (.ireturn, 1) := by decide +kernel
theorem dX0_firstClaim_60 : decode cX0_firstClaim 60 = .ok (.iinc 5 1, 3) := by decide +kernel
theorem dX0_firstClaim_63 : decode cX0_firstClaim 63 = .ok (.goto (-49), 3) := by decide +kernel
theorem dX0_firstClaim_66 : decode cX0_firstClaim 66 = .ok (.iconst (-1), 1) := by decide +kernel
theorem dX0_firstClaim_67 : decode cX0_firstClaim 67 = .ok (.ireturn, 1) := by decide +kernel
theorem dX0_claimQuarrels_0 : decode cX0_claimQuarrels 0 = .ok (.aload_n 1, 1) := by decide +kernel
theorem dX0_claimQuarrels_1 : decode cX0_claimQuarrels 1 = .ok (.iload_n 3, 1) := by decide +kernel
theorem dX0_claimQuarrels_2 : decode cX0_claimQuarrels 2 = .ok (.iconst 0, 1) := by decide +kernel
theorem dX0_claimQuarrels_3 : decode cX0_claimQuarrels 3 = .ok (.aload_n 0, 1) := by decide +kernel
theorem dX0_claimQuarrels_4 : decode cX0_claimQuarrels 4 = .ok (.getfield 21, 3) := by decide +kernel
theorem dX0_claimQuarrels_7 : decode cX0_claimQuarrels 7 = .ok (.invokevirtual 41, 3) := by decide +kernel
theorem dX0_claimQuarrels_10 : decode cX0_claimQuarrels 10 = .ok (.iconst 0, 1) := by decide +kernel
theorem dX0_claimQuarrels_11 : decode cX0_claimQuarrels 11 = .ok (.istore 4, 2) := by decide +kernel
theorem dX0_claimQuarrels_13 : decode cX0_claimQuarrels 13 = .ok (.iconst 0, 1) := by decide +kernel
theorem dX0_claimQuarrels_14 : decode cX0_claimQuarrels 14 = .ok (.istore 5, 2) := by decide +kernel
theorem dX0_claimQuarrels_16 : decode cX0_claimQuarrels 16 = .ok (.iload 5, 2) := by decide +kernel
theorem dX0_claimQuarrels_18 : decode cX0_claimQuarrels 18 = .ok (.bipush 10, 2) := by decide +kernel
theorem dX0_claimQuarrels_20 : decode cX0_claimQuarrels 20 = .ok (.if_icmp .ge 36, 3) := by decide +kernel
theorem dX0_claimQuarrels_23 : decode cX0_claimQuarrels 23 = .ok (.aload_n 0, 1) := by decide +kernel
theorem dX0_claimQuarrels_24 : decode cX0_claimQuarrels 24 = .ok (.getfield 21, 3) := by decide +kernel
theorem dX0_claimQuarrels_27 : decode cX0_claimQuarrels 27 = .ok (.iload 5, 2) := by decide +kernel
theorem dX0_claimQuarrels_29 : decode cX0_claimQuarrels 29 = .ok (.putfield 67, 3) := by decide +kernel
theorem dX0_claimQuarrels_32 : decode cX0_claimQuarrels 32 = .ok (.aload_n 0, 1) := by decide +kernel
theorem dX0_claimQuarrels_33 : decode cX0_claimQuarrels 33 = .ok (.getfield 21, 3) := by decide +kernel
theorem dX0_claimQuarrels_36 : decode cX0_claimQuarrels 36 = .ok (.aload_n 2, 1) := by decide +kernel
theorem dX0_claimQuarrels_37 : decode cX0_claimQuarrels 37 = .ok (.invokevirtual 51, 3) := by decide +kernel
theorem dX0_claimQuarrels_40 : decode cX0_claimQuarrels 40 = .ok (.aload_n 1, 1) := by decide +kernel
theorem dX0_claimQuarrels_41 : decode cX0_claimQuarrels 41 = .ok (.getfield 64, 3) := by decide +kernel
theorem dX0_claimQuarrels_44 : decode cX0_claimQuarrels 44 = .ok (.if_icmp .ge 6, 3) := by decide +kernel
theorem dX0_claimQuarrels_47 : decode cX0_claimQuarrels 47 = .ok (.iinc 4 1, 3) := by decide +kernel
theorem dX0_claimQuarrels_50 : decode cX0_claimQuarrels 50 = .ok (.iinc 5 1, 3) := by decide +kernel
theorem dX0_claimQuarrels_53 : decode cX0_claimQuarrels 53 = .ok (.goto (-37), 3) := by decide +kernel
theorem dX0_claimQuarrels_56 : decode cX0_claimQuarrels 56 = .ok (.iload 4, 2) := by decide +kernel
theorem dX0_claimQuarrels_58 : decode cX0_claimQuarrels 58 = .ok (.ireturn, 1) := by decide +kernel
theorem dX0_fewestGifts_0 : decode cX0_fewestGifts 0 = .ok (.aload_n 1, 1) := by decide +kernel
theorem dX0_fewestGifts_1 : decode cX0_fewestGifts 1 = .ok (.iload_n 3, 1) := by decide +kernel
theorem dX0_fewestGifts_2 : decode cX0_fewestGifts 2 = .ok (.iload 5, 2) := by decide +kernel
theorem dX0_fewestGifts_4 : decode cX0_fewestGifts 4 = .ok (.aload_n 0, 1) := by decide +kernel
theorem dX0_fewestGifts_5 : decode cX0_fewestGifts 5 = .ok (.getfield 21, 3) := by decide +kernel
theorem dX0_fewestGifts_8 : decode cX0_fewestGifts 8 = .ok (.invokevirtual 41, 3) := by decide +kernel
theorem dX0_fewestGifts_11 : decode cX0_fewestGifts 11 = .ok (.aload_n 0, 1) := by decide +kernel
theorem dX0_fewestGifts_12 : decode cX0_fewestGifts 12 = .ok (.getfield 30, 3) := by decide +kernel
theorem dX0_fewestGifts_15 : decode cX0_fewestGifts 15 = .ok (.bipush 41, 2) := by decide +kernel
theorem dX0_fewestGifts_17 : decode cX0_fewestGifts 17 = .ok (.invokevirtual 68, 3) := by decide +kernel
theorem dX0_fewestGifts_20 : decode cX0_fewestGifts 20 = .ok (.aload_n 0, 1) := by decide +kernel
theorem dX0_fewestGifts_21 : decode cX0_fewestGifts 21 = .ok (.getfield 30, 3) := by decide +kernel
theorem dX0_fewestGifts_24 : decode cX0_fewestGifts 24 = .ok (.aload_n 0, 1) := by decide +kernel
theorem dX0_fewestGifts_25 : decode cX0_fewestGifts 25 = .ok (.getfield 21, 3) := by decide +kernel
theorem dX0_fewestGifts_28 : decode cX0_fewestGifts 28 = .ok (.getfield 58, 3) := by decide +kernel
theorem dX0_fewestGifts_31 : decode cX0_fewestGifts 31 = .ok (.iconst 0, 1) := by decide +kernel
theorem dX0_fewestGifts_32 : decode cX0_fewestGifts 32 = .ok (.invokevirtual 71, 3) := by decide +kernel
theorem dX0_fewestGifts_35 : decode cX0_fewestGifts 35 = .ok (.iconst 0, 1) := by decide +kernel
theorem dX0_fewestGifts_36 : decode cX0_fewestGifts 36 = .ok (.istore 6, 2) := by decide +kernel
theorem dX0_fewestGifts_38 : decode cX0_fewestGifts 38 = .ok (.iload 6, 2) := by decide +kernel
theorem dX0_fewestGifts_40 : decode cX0_fewestGifts 40 = .ok (.iload 4, 2) := by decide +kernel
theorem dX0_fewestGifts_42 : decode cX0_fewestGifts 42 = .ok (.if_icmp .ge 22, 3) := by decide +kernel
theorem dX0_fewestGifts_45 : decode cX0_fewestGifts 45 = .ok (.aload_n 0, 1) := by decide +kernel
theorem dX0_fewestGifts_46 : decode cX0_fewestGifts 46 = .ok (.invokevirtual 75, 3) := by decide +kernel
theorem dX0_fewestGifts_49 : decode cX0_fewestGifts 49 = .ok (.aload_n 0, 1) := by decide +kernel
theorem dX0_fewestGifts_50 : decode cX0_fewestGifts 50 = .ok (.aload_n 2, 1) := by decide +kernel
theorem dX0_fewestGifts_51 : decode cX0_fewestGifts 51 = .ok (.aload_n 1, 1) := by decide +kernel
theorem dX0_fewestGifts_52 : decode cX0_fewestGifts 52 = .ok (.getfield 64, 3) := by decide +kernel
theorem dX0_fewestGifts_55 : decode cX0_fewestGifts 55 = .ok (.invokevirtual 78, 3) := by decide +kernel
theorem dX0_fewestGifts_58 : decode cX0_fewestGifts 58 = .ok (.iinc 6 1, 3) := by decide +kernel
theorem dX0_fewestGifts_61 : decode cX0_fewestGifts 61 = .ok (.goto (-23), 3) := by decide +kernel
theorem dX0_fewestGifts_64 : decode cX0_fewestGifts 64 = .ok (.bipush 41, 2) := by decide +kernel
theorem dX0_fewestGifts_66 : decode cX0_fewestGifts 66 = .ok (.istore 6, 2) := by decide +kernel
theorem dX0_fewestGifts_68 : decode cX0_fewestGifts 68 = .ok (.iconst 0, 1) := by decide +kernel
theorem dX0_fewestGifts_69 : decode cX0_fewestGifts 69 = .ok (.istore 7, 2) := by decide +kernel
theorem dX0_fewestGifts_71 : decode cX0_fewestGifts 71 = .ok (.iload 7, 2) := by decide +kernel
theorem dX0_fewestGifts_73 : decode cX0_fewestGifts 73 = .ok (.bipush 99, 2) := by decide +kernel
theorem dX0_fewestGifts_75 : decode cX0_fewestGifts 75 = .ok (.if_icmp .gt 25, 3) := by decide +kernel
theorem dX0_fewestGifts_78 : decode cX0_fewestGifts 78 = .ok (.iload 6, 2) := by decide +kernel
theorem dX0_fewestGifts_80 : decode cX0_fewestGifts 80 = .ok (.aload_n 0, 1) := by decide +kernel
theorem dX0_fewestGifts_81 : decode cX0_fewestGifts 81 = .ok (.getfield 30, 3) := by decide +kernel
theorem dX0_fewestGifts_84 : decode cX0_fewestGifts 84 = .ok (.iload 7, 2) := by decide +kernel
theorem dX0_fewestGifts_86 : decode cX0_fewestGifts 86 = .ok (.invokevirtual 82, 3) := by decide +kernel
theorem dX0_fewestGifts_89 : decode cX0_fewestGifts 89 = .ok (.invokestatic 86, 3) := by decide +kernel
theorem dX0_fewestGifts_92 : decode cX0_fewestGifts 92 = .ok (.istore 6, 2) := by decide +kernel
theorem dX0_fewestGifts_94 : decode cX0_fewestGifts 94 = .ok (.iinc 7 1, 3) := by decide +kernel
theorem dX0_fewestGifts_97 : decode cX0_fewestGifts 97 = .ok (.goto (-26), 3) := by decide +kernel
theorem dX0_fewestGifts_100 : decode cX0_fewestGifts 100 = .ok (.iload 6, 2) := by decide +kernel
theorem dX0_fewestGifts_102 : decode cX0_fewestGifts 102 = .ok (.bipush 41, 2) := by decide +kernel
theorem dX0_fewestGifts_104 : decode cX0_fewestGifts 104 = .ok (.if_icmp .ge 8, 3) := by decide +kernel
theorem dX0_fewestGifts_107 : decode cX0_fewestGifts 107 = .ok (.iload 6, 2) := by decide +kernel
theorem dX0_fewestGifts_109 : decode cX0_fewestGifts 109 = .ok (.goto 4, 3) := by decide +kernel
theorem dX0_fewestGifts_112 : decode cX0_fewestGifts 112 = .ok (.iconst (-1), 1) := by decide +kernel
theorem dX0_fewestGifts_113 : decode cX0_fewestGifts 113 = .ok (.ireturn, 1) := by decide +kernel
theorem dX0_addGifts_0 : decode cX0_addGifts 0 = .ok (.iconst 0, 1) := by decide +kernel
theorem dX0_addGifts_1 : decode cX0_addGifts 1 = .ok (.istore_n 1, 1) := by decide +kernel
theorem dX0_addGifts_2 : decode cX0_addGifts 2 = .ok (.iload_n 1, 1) := by decide +kernel
theorem dX0_addGifts_3 : decode cX0_addGifts 3 = .ok (.bipush 99, 2) := by decide +kernel
theorem dX0_addGifts_5 : decode cX0_addGifts 5 = .ok (.if_icmp .ge 45, 3) := by decide +kernel
theorem dX0_addGifts_8 : decode cX0_addGifts 8 = .ok (.iload_n 1, 1) := by decide +kernel
theorem dX0_addGifts_9 : decode cX0_addGifts 9 = .ok (.iconst 5, 1) := by decide +kernel
theorem dX0_addGifts_10 : decode cX0_addGifts 10 = .ok (.iadd, 1) := by decide +kernel
theorem dX0_addGifts_11 : decode cX0_addGifts 11 = .ok (.invokestatic 92, 3) := by decide +kernel
theorem dX0_addGifts_14 : decode cX0_addGifts 14 = .ok (.istore_n 2, 1) := by decide +kernel
theorem dX0_addGifts_15 : decode cX0_addGifts 15 = .ok (.aload_n 0, 1) := by decide +kernel
theorem dX0_addGifts_16 : decode cX0_addGifts 16 = .ok (.getfield 30, 3) := by decide +kernel
theorem dX0_addGifts_19 : decode cX0_addGifts 19 = .ok (.iload_n 2, 1) := by decide +kernel
theorem dX0_addGifts_20 : decode cX0_addGifts 20 = .ok (.aload_n 0, 1) := by decide +kernel
theorem dX0_addGifts_21 : decode cX0_addGifts 21 = .ok (.getfield 30, 3) := by decide +kernel
theorem dX0_addGifts_24 : decode cX0_addGifts 24 = .ok (.iload_n 2, 1) := by decide +kernel
theorem dX0_addGifts_25 : decode cX0_addGifts 25 = .ok (.invokevirtual 82, 3) := by decide +kernel
theorem dX0_addGifts_28 : decode cX0_addGifts 28 = .ok (.aload_n 0, 1) := by decide +kernel
theorem dX0_addGifts_29 : decode cX0_addGifts 29 = .ok (.getfield 30, 3) := by decide +kernel
theorem dX0_addGifts_32 : decode cX0_addGifts 32 = .ok (.iload_n 1, 1) := by decide +kernel
theorem dX0_addGifts_33 : decode cX0_addGifts 33 = .ok (.invokevirtual 82, 3) := by decide +kernel
theorem dX0_addGifts_36 : decode cX0_addGifts 36 = .ok (.iconst 1, 1) := by decide +kernel
theorem dX0_addGifts_37 : decode cX0_addGifts 37 = .ok (.iadd, 1) := by decide +kernel
theorem dX0_addGifts_38 : decode cX0_addGifts 38 = .ok (.invokestatic 86, 3) := by decide +kernel
theorem dX0_addGifts_41 : decode cX0_addGifts 41 = .ok (.invokevirtual 71, 3) := by decide +kernel
theorem dX0_addGifts_44 : decode cX0_addGifts 44 = .ok (.iinc 1 1, 3) := by decide +kernel
theorem dX0_addGifts_47 : decode cX0_addGifts 47 = .ok (.goto (-45), 3) := by decide +kernel
theorem dX0_addGifts_50 : decode cX0_addGifts 50 = .ok (.return_, 1) := by decide +kernel
theorem dX0_passCosts_0 : decode cX0_passCosts 0 = .ok (.aload_n 0, 1) := by decide +kernel
theorem dX0_passCosts_1 : decode cX0_passCosts 1 = .ok (.getfield 34, 3) := by decide +kernel
theorem dX0_passCosts_4 : decode cX0_passCosts 4 = .ok (.bipush 41, 2) := by decide +kernel
theorem dX0_passCosts_6 : decode cX0_passCosts 6 = .ok (.invokevirtual 68, 3) := by decide +kernel
theorem dX0_passCosts_9 : decode cX0_passCosts 9 = .ok (.iconst 0, 1) := by decide +kernel
theorem dX0_passCosts_10 : decode cX0_passCosts 10 = .ok (.istore_n 3, 1) := by decide +kernel
theorem dX0_passCosts_11 : decode cX0_passCosts 11 = .ok (.iload_n 3, 1) := by decide +kernel
theorem dX0_passCosts_12 : decode cX0_passCosts 12 = .ok (.bipush 99, 2) := by decide +kernel
theorem dX0_passCosts_14 : decode cX0_passCosts 14 = .ok (.if_icmp .gt 75, 3) := by decide +kernel
theorem dX0_passCosts_17 : decode cX0_passCosts 17 = .ok (.aload_n 0, 1) := by decide +kernel
theorem dX0_passCosts_18 : decode cX0_passCosts 18 = .ok (.getfield 30, 3) := by decide +kernel
theorem dX0_passCosts_21 : decode cX0_passCosts 21 = .ok (.iload_n 3, 1) := by decide +kernel
theorem dX0_passCosts_22 : decode cX0_passCosts 22 = .ok (.invokevirtual 82, 3) := by decide +kernel
theorem dX0_passCosts_25 : decode cX0_passCosts 25 = .ok (.bipush 41, 2) := by decide +kernel
theorem dX0_passCosts_27 : decode cX0_passCosts 27 = .ok (.if_icmp .ge 56, 3) := by decide +kernel
theorem dX0_passCosts_30 : decode cX0_passCosts 30 = .ok (.aload_n 0, 1) := by decide +kernel
theorem dX0_passCosts_31 : decode cX0_passCosts 31 = .ok (.getfield 21, 3) := by decide +kernel
theorem dX0_passCosts_34 : decode cX0_passCosts 34 = .ok (.iload_n 3, 1) := by decide +kernel
theorem dX0_passCosts_35 : decode cX0_passCosts 35 = .ok (.putfield 58, 3) := by decide +kernel
theorem dX0_passCosts_38 : decode cX0_passCosts 38 = .ok (.aload_n 0, 1) := by decide +kernel
theorem dX0_passCosts_39 : decode cX0_passCosts 39 = .ok (.getfield 21, 3) := by decide +kernel
theorem dX0_passCosts_42 : decode cX0_passCosts 42 = .ok (.aload_n 1, 1) := by decide +kernel
theorem dX0_passCosts_43 : decode cX0_passCosts 43 = .ok (.invokevirtual 55, 3) := by decide +kernel
theorem dX0_passCosts_46 : decode cX0_passCosts 46 = .ok (.istore 4, 2) := by decide +kernel
theorem dX0_passCosts_48 : decode cX0_passCosts 48 = .ok (.iload 4, 2) := by decide +kernel
theorem dX0_passCosts_50 : decode cX0_passCosts 50 = .ok (.iload_n 2, 1) := by decide +kernel
theorem dX0_passCosts_51 : decode cX0_passCosts 51 = .ok (.if_icmp .lt 32, 3) := by decide +kernel
theorem dX0_passCosts_54 : decode cX0_passCosts 54 = .ok (.aload_n 0, 1) := by decide +kernel
theorem dX0_passCosts_55 : decode cX0_passCosts 55 = .ok (.getfield 34, 3) := by decide +kernel
theorem dX0_passCosts_58 : decode cX0_passCosts 58 = .ok (.iload 4, 2) := by decide +kernel
theorem dX0_passCosts_60 : decode cX0_passCosts 60 = .ok (.aload_n 0, 1) := by decide +kernel
theorem dX0_passCosts_61 : decode cX0_passCosts 61 = .ok (.getfield 34, 3) := by decide +kernel
theorem dX0_passCosts_64 : decode cX0_passCosts 64 = .ok (.iload 4, 2) := by decide +kernel
theorem dX0_passCosts_66 : decode cX0_passCosts 66 = .ok (.invokevirtual 82, 3) := by decide +kernel
theorem dX0_passCosts_69 : decode cX0_passCosts 69 = .ok (.aload_n 0, 1) := by decide +kernel
theorem dX0_passCosts_70 : decode cX0_passCosts 70 = .ok (.getfield 30, 3) := by decide +kernel
theorem dX0_passCosts_73 : decode cX0_passCosts 73 = .ok (.iload_n 3, 1) := by decide +kernel
theorem dX0_passCosts_74 : decode cX0_passCosts 74 = .ok (.invokevirtual 82, 3) := by decide +kernel
theorem dX0_passCosts_77 : decode cX0_passCosts 77 = .ok (.invokestatic 86, 3) := by decide +kernel
theorem dX0_passCosts_80 : decode cX0_passCosts 80 = .ok (.invokevirtual 71, 3) := by decide +kernel
theorem dX0_passCosts_83 : decode cX0_passCosts 83 = .ok (.iinc 3 1, 3) := by decide +kernel
theorem dX0_passCosts_86 : decode cX0_passCosts 86 = .ok (.goto (-75), 3) := by decide +kernel
theorem dX0_passCosts_89 : decode cX0_passCosts 89 = .ok (.aload_n 0, 1) := by decide +kernel
theorem dX0_passCosts_90 : decode cX0_passCosts 90 = .ok (.getfield 30, 3) := by decide +kernel
theorem dX0_passCosts_93 : decode cX0_passCosts 93 = .ok (.aload_n 0, 1) := by decide +kernel
theorem dX0_passCosts_94 : decode cX0_passCosts 94 = .ok (.getfield 34, 3) := by decide +kernel
theorem dX0_passCosts_97 : decode cX0_passCosts 97 = .ok (.invokevirtual 95, 3) := by decide +kernel
theorem dX0_passCosts_100 : decode cX0_passCosts 100 = .ok (.aload_n 0, 1) := by decide +kernel
theorem dX0_passCosts_101 : decode cX0_passCosts 101 = .ok (.getfield 21, 3) := by decide +kernel
theorem dX0_passCosts_104 : decode cX0_passCosts 104 = .ok (.invokevirtual 61, 3) := by decide +kernel
theorem dX0_passCosts_107 : decode cX0_passCosts 107 = .ok (.return_, 1) := by decide +kernel
theorem dX0_claimAll_0 : decode cX0_claimAll 0 = .ok (.iconst 0, 1) := by decide +kernel
theorem dX0_claimAll_1 : decode cX0_claimAll 1 = .ok (.istore_n 1, 1) := by decide +kernel
theorem dX0_claimAll_2 : decode cX0_claimAll 2 = .ok (.iload_n 1, 1) := by decide +kernel
theorem dX0_claimAll_3 : decode cX0_claimAll 3 = .ok (.aload_n 0, 1) := by decide +kernel
theorem dX0_claimAll_4 : decode cX0_claimAll 4 = .ok (.getfield 12, 3) := by decide +kernel
theorem dX0_claimAll_7 : decode cX0_claimAll 7 = .ok (.getfield 99, 3) := by decide +kernel
theorem dX0_claimAll_10 : decode cX0_claimAll 10 = .ok (.if_icmp .ge 29, 3) := by decide +kernel
theorem dX0_claimAll_13 : decode cX0_claimAll 13 = .ok (.aload_n 0, 1) := by decide +kernel
theorem dX0_claimAll_14 : decode cX0_claimAll 14 = .ok (.getfield 12, 3) := by decide +kernel
theorem dX0_claimAll_17 : decode cX0_claimAll 17 = .ok (.iload_n 1, 1) := by decide +kernel
theorem dX0_claimAll_18 : decode cX0_claimAll 18 = .ok (.invokevirtual 102, 3) := by decide +kernel
theorem dX0_claimAll_21 : decode cX0_claimAll 21 = .ok (.ifCond .ne 12, 3) := by decide +kernel
theorem dX0_claimAll_24 : decode cX0_claimAll 24 = .ok (.aload_n 0, 1) := by decide +kernel
theorem dX0_claimAll_25 : decode cX0_claimAll 25 = .ok (.getfield 12, 3) := by decide +kernel
theorem dX0_claimAll_28 : decode cX0_claimAll 28 = .ok (.iload_n 1, 1) := by decide +kernel
theorem dX0_claimAll_29 : decode cX0_claimAll 29 = .ok (.invokevirtual 106, 3) := by decide +kernel
theorem dX0_claimAll_32 : decode cX0_claimAll 32 = .ok (.pop, 1) := by decide +kernel
theorem dX0_claimAll_33 : decode cX0_claimAll 33 = .ok (.iinc 1 1, 3) := by decide +kernel
theorem dX0_claimAll_36 : decode cX0_claimAll 36 = .ok (.goto (-34), 3) := by decide +kernel
theorem dX0_claimAll_39 : decode cX0_claimAll 39 = .ok (.return_, 1) := by decide +kernel
theorem dX0_fallen_0 : decode cX0_fallen 0 = .ok (.aload_n 0, 1) := by decide +kernel
theorem dX0_fallen_1 : decode cX0_fallen 1 = .ok (.getfield 12, 3) := by decide +kernel
theorem dX0_fallen_4 : decode cX0_fallen 4 = .ok (.aload_n 1, 1) := by decide +kernel
theorem dX0_fallen_5 : decode cX0_fallen 5 = .ok (.invokevirtual 109, 3) := by decide +kernel
theorem dX0_fallen_8 : decode cX0_fallen 8 = .ok (.aload_n 0, 1) := by decide +kernel
theorem dX0_fallen_9 : decode cX0_fallen 9 = .ok (.invokevirtual 112, 3) := by decide +kernel
theorem dX0_fallen_12 : decode cX0_fallen 12 = .ok (.aload_n 0, 1) := by decide +kernel
theorem dX0_fallen_13 : decode cX0_fallen 13 = .ok (.getfield 12, 3) := by decide +kernel
theorem dX0_fallen_16 : decode cX0_fallen 16 = .ok (.getfield 115, 3) := by decide +kernel
theorem dX0_fallen_19 : decode cX0_fallen 19 = .ok (.aload_n 1, 1) := by decide +kernel
theorem dX0_fallen_20 : decode cX0_fallen 20 = .ok (.getfield 115, 3) := by decide +kernel
theorem dX0_fallen_23 : decode cX0_fallen 23 = .ok (.iconst (-1), 1) := by decide +kernel
theorem dX0_fallen_24 : decode cX0_fallen 24 = .ok (.ixor, 1) := by decide +kernel
theorem dX0_fallen_25 : decode cX0_fallen 25 = .ok (.iand, 1) := by decide +kernel
theorem dX0_fallen_26 : decode cX0_fallen 26 = .ok (.ireturn, 1) := by decide +kernel
theorem dX0_lossOf_0 : decode cX0_lossOf 0 = .ok (.aload_n 0, 1) := by decide +kernel
theorem dX0_lossOf_1 : decode cX0_lossOf 1 = .ok (.getfield 12, 3) := by decide +kernel
theorem dX0_lossOf_4 : decode cX0_lossOf 4 = .ok (.aload_n 1, 1) := by decide +kernel
theorem dX0_lossOf_5 : decode cX0_lossOf 5 = .ok (.invokevirtual 109, 3) := by decide +kernel
theorem dX0_lossOf_8 : decode cX0_lossOf 8 = .ok (.aload_n 0, 1) := by decide +kernel
theorem dX0_lossOf_9 : decode cX0_lossOf 9 = .ok (.invokevirtual 112, 3) := by decide +kernel
theorem dX0_lossOf_12 : decode cX0_lossOf 12 = .ok (.iconst 0, 1) := by decide +kernel
theorem dX0_lossOf_13 : decode cX0_lossOf 13 = .ok (.aload_n 1, 1) := by decide +kernel
theorem dX0_lossOf_14 : decode cX0_lossOf 14 = .ok (.getfield 118, 3) := by decide +kernel
theorem dX0_lossOf_17 : decode cX0_lossOf 17 = .ok (.iload_n 2, 1) := by decide +kernel
theorem dX0_lossOf_18 : decode cX0_lossOf 18 = .ok (.invokevirtual 82, 3) := by decide +kernel
theorem dX0_lossOf_21 : decode cX0_lossOf 21 = .ok (.aload_n 0, 1) := by decide +kernel
theorem dX0_lossOf_22 : decode cX0_lossOf 22 = .ok (.getfield 12, 3) := by decide +kernel
theorem dX0_lossOf_25 : decode cX0_lossOf 25 = .ok (.getfield 118, 3) := by decide +kernel
theorem dX0_lossOf_28 : decode cX0_lossOf 28 = .ok (.iload_n 2, 1) := by decide +kernel
theorem dX0_lossOf_29 : decode cX0_lossOf 29 = .ok (.invokevirtual 82, 3) := by decide +kernel
theorem dX0_lossOf_32 : decode cX0_lossOf 32 = .ok (.isub, 1) := by decide +kernel
theorem dX0_lossOf_33 : decode cX0_lossOf 33 = .ok (.invokestatic 121, 3) := by decide +kernel
theorem dX0_lossOf_36 : decode cX0_lossOf 36 = .ok (.ireturn, 1) := by decide +kernel
theorem dX0_leastWealth_0 : decode cX0_leastWealth 0 = .ok (.aload_n 0, 1) := by decide +kernel
theorem dX0_leastWealth_1 : decode cX0_leastWealth 1 = .ok (.getfield 12, 3) := by decide +kernel
theorem dX0_leastWealth_4 : decode cX0_leastWealth 4 = .ok (.aload_n 1, 1) := by decide +kernel
theorem dX0_leastWealth_5 : decode cX0_leastWealth 5 = .ok (.invokevirtual 109, 3) := by decide +kernel
theorem dX0_leastWealth_8 : decode cX0_leastWealth 8 = .ok (.iconst 0, 1) := by decide +kernel
theorem dX0_leastWealth_9 : decode cX0_leastWealth 9 = .ok (.istore_n 3, 1) := by decide +kernel
theorem dX0_leastWealth_10 : decode cX0_leastWealth 10 = .ok (.sipush 1000, 3) := by decide +kernel
theorem dX0_leastWealth_13 : decode cX0_leastWealth 13 = .ok (.istore 4, 2) := by decide +kernel
theorem dX0_leastWealth_15 : decode cX0_leastWealth 15 = .ok (.iconst 0, 1) := by decide +kernel
theorem dX0_leastWealth_16 : decode cX0_leastWealth 16 = .ok (.istore 5, 2) := by decide +kernel
theorem dX0_leastWealth_18 : decode cX0_leastWealth 18 = .ok (.iload 5, 2) := by decide +kernel
theorem dX0_leastWealth_20 : decode cX0_leastWealth 20 = .ok (.sipush 999, 3) := by decide +kernel
theorem dX0_leastWealth_23 : decode cX0_leastWealth 23 = .ok (.if_icmp .ge 81, 3) := by decide +kernel
theorem dX0_leastWealth_26 : decode cX0_leastWealth 26 = .ok (.iload_n 3, 1) := by decide +kernel
theorem dX0_leastWealth_27 : decode cX0_leastWealth 27 = .ok (.iload 4, 2) := by decide +kernel
theorem dX0_leastWealth_29 : decode cX0_leastWealth 29 = .ok (.if_icmp .ge 75, 3) := by decide +kernel
theorem dX0_leastWealth_32 : decode cX0_leastWealth 32 = .ok (.iload_n 3, 1) := by decide +kernel
theorem dX0_leastWealth_33 : decode cX0_leastWealth 33 = .ok (.iload 4, 2) := by decide +kernel
theorem dX0_leastWealth_35 : decode cX0_leastWealth 35 = .ok (.iadd, 1) := by decide +kernel
theorem dX0_leastWealth_36 : decode cX0_leastWealth 36 = .ok (.iconst 2, 1) := by decide +kernel
theorem dX0_leastWealth_37 : decode cX0_leastWealth 37 = .ok (.idiv, 1) := by decide +kernel
theorem dX0_leastWealth_38 : decode cX0_leastWealth 38 = .ok (.istore 6, 2) := by decide +kernel
theorem dX0_leastWealth_40 : decode cX0_leastWealth 40 = .ok (.aload_n 0, 1) := by decide +kernel
theorem dX0_leastWealth_41 : decode cX0_leastWealth 41 = .ok (.getfield 12, 3) := by decide +kernel
theorem dX0_leastWealth_44 : decode cX0_leastWealth 44 = .ok (.aload_n 1, 1) := by decide +kernel
theorem dX0_leastWealth_45 : decode cX0_leastWealth 45 = .ok (.invokevirtual 124, 3) := by decide +kernel
theorem dX0_leastWealth_48 : decode cX0_leastWealth 48 = .ok (.aload_n 0, 1) := by decide +kernel
theorem dX0_leastWealth_49 : decode cX0_leastWealth 49 = .ok (.getfield 12, 3) := by decide +kernel
theorem dX0_leastWealth_52 : decode cX0_leastWealth 52 = .ok (.getfield 118, 3) := by decide +kernel
theorem dX0_leastWealth_55 : decode cX0_leastWealth 55 = .ok (.iload_n 2, 1) := by decide +kernel
theorem dX0_leastWealth_56 : decode cX0_leastWealth 56 = .ok (.iload 6, 2) := by decide +kernel
theorem dX0_leastWealth_58 : decode cX0_leastWealth 58 = .ok (.invokevirtual 71, 3) := by decide +kernel
theorem dX0_leastWealth_61 : decode cX0_leastWealth 61 = .ok (.aload_n 0, 1) := by decide +kernel
theorem dX0_leastWealth_62 : decode cX0_leastWealth 62 = .ok (.invokevirtual 112, 3) := by decide +kernel
theorem dX0_leastWealth_65 : decode cX0_leastWealth 65 = .ok (.aload_n 0, 1) := by decide +kernel
theorem dX0_leastWealth_66 : decode cX0_leastWealth 66 = .ok (.getfield 12, 3) := by decide +kernel
theorem dX0_leastWealth_69 : decode cX0_leastWealth 69 = .ok (.getfield 115, 3) := by decide +kernel
theorem dX0_leastWealth_72 : decode cX0_leastWealth 72 = .ok (.aload_n 1, 1) := by decide +kernel
theorem dX0_leastWealth_73 : decode cX0_leastWealth 73 = .ok (.getfield 115, 3) := by decide +kernel
theorem dX0_leastWealth_76 : decode cX0_leastWealth 76 = .ok (.iconst (-1), 1) := by decide +kernel
theorem dX0_leastWealth_77 : decode cX0_leastWealth 77 = .ok (.ixor, 1) := by decide +kernel
theorem dX0_leastWealth_78 : decode cX0_leastWealth 78 = .ok (.iand, 1) := by decide +kernel
theorem dX0_leastWealth_79 : decode cX0_leastWealth 79 = .ok (.iload_n 2, 1) := by decide +kernel
theorem dX0_leastWealth_80 : decode cX0_leastWealth 80 = .ok (.invokestatic 127, 3) := by decide +kernel
theorem dX0_leastWealth_83 : decode cX0_leastWealth 83 = .ok (.ifCond .eq 11, 3) := by decide +kernel
theorem dX0_leastWealth_86 : decode cX0_leastWealth 86 = .ok (.iload 6, 2) := by decide +kernel
theorem dX0_leastWealth_88 : decode cX0_leastWealth 88 = .ok (.iconst 1, 1) := by decide +kernel
theorem dX0_leastWealth_89 : decode cX0_leastWealth 89 = .ok (.iadd, 1) := by decide +kernel
theorem dX0_leastWealth_90 : decode cX0_leastWealth 90 = .ok (.istore_n 3, 1) := by decide +kernel
theorem dX0_leastWealth_91 : decode cX0_leastWealth 91 = .ok (.goto 7, 3) := by decide +kernel
theorem dX0_leastWealth_94 : decode cX0_leastWealth 94 = .ok (.iload 6, 2) := by decide +kernel
theorem dX0_leastWealth_96 : decode cX0_leastWealth 96 = .ok (.istore 4, 2) := by decide +kernel
theorem dX0_leastWealth_98 : decode cX0_leastWealth 98 = .ok (.iinc 5 1, 3) := by decide +kernel
theorem dX0_leastWealth_101 : decode cX0_leastWealth 101 = .ok (.goto (-83), 3) := by decide +kernel
theorem dX0_leastWealth_104 : decode cX0_leastWealth 104 = .ok (.iload 4, 2) := by decide +kernel
theorem dX0_leastWealth_106 : decode cX0_leastWealth 106 = .ok (.sipush 999, 3) := by decide +kernel
theorem dX0_leastWealth_109 : decode cX0_leastWealth 109 = .ok (.if_icmp .le 7, 3) := by decide +kernel
theorem dX0_leastWealth_112 : decode cX0_leastWealth 112 = .ok (.iconst (-1), 1) := by decide +kernel
theorem dX0_leastWealth_113 : decode cX0_leastWealth 113 = .ok (.goto 5, 3) := by decide +kernel
theorem dX0_leastWealth_116 : decode cX0_leastWealth 116 = .ok (.iload 4, 2) := by decide +kernel
theorem dX0_leastWealth_118 : decode cX0_leastWealth 118 = .ok (.ireturn, 1) := by decide +kernel
theorem dX0_tryMonths_0 : decode cX0_tryMonths 0 = .ok (.aload_n 0, 1) := by decide +kernel
theorem dX0_tryMonths_1 : decode cX0_tryMonths 1 = .ok (.getfield 12, 3) := by decide +kernel
theorem dX0_tryMonths_4 : decode cX0_tryMonths 4 = .ok (.aload_n 1, 1) := by decide +kernel
theorem dX0_tryMonths_5 : decode cX0_tryMonths 5 = .ok (.invokevirtual 109, 3) := by decide +kernel
theorem dX0_tryMonths_8 : decode cX0_tryMonths 8 = .ok (.aload_n 0, 1) := by decide +kernel
theorem dX0_tryMonths_9 : decode cX0_tryMonths 9 = .ok (.getfield 12, 3) := by decide +kernel
theorem dX0_tryMonths_12 : decode cX0_tryMonths 12 = .ok (.iload 4, 2) := by decide +kernel
theorem dX0_tryMonths_14 : decode cX0_tryMonths 14 = .ok (.putfield 131, 3) := by decide +kernel
theorem dX0_tryMonths_17 : decode cX0_tryMonths 17 = .ok (.iconst 0, 1) := by decide +kernel
theorem dX0_tryMonths_18 : decode cX0_tryMonths 18 = .ok (.istore 5, 2) := by decide +kernel
theorem dX0_tryMonths_20 : decode cX0_tryMonths 20 = .ok (.iload 5, 2) := by decide +kernel
theorem dX0_tryMonths_22 : decode cX0_tryMonths 22 = .ok (.iload_n 3, 1) := by decide +kernel
theorem dX0_tryMonths_23 : decode cX0_tryMonths 23 = .ok (.if_icmp .ge 21, 3) := by decide +kernel
theorem dX0_tryMonths_26 : decode cX0_tryMonths 26 = .ok (.aload_n 0, 1) := by decide +kernel
theorem dX0_tryMonths_27 : decode cX0_tryMonths 27 = .ok (.getfield 12, 3) := by decide +kernel
theorem dX0_tryMonths_30 : decode cX0_tryMonths 30 = .ok (.aload_n 2, 1) := by decide +kernel
theorem dX0_tryMonths_31 : decode cX0_tryMonths 31 = .ok (.aload_n 0, 1) := by decide +kernel
theorem dX0_tryMonths_32 : decode cX0_tryMonths 32 = .ok (.getfield 21, 3) := by decide +kernel
theorem dX0_tryMonths_35 : decode cX0_tryMonths 35 = .ok (.invokevirtual 134, 3) := by decide +kernel
theorem dX0_tryMonths_38 : decode cX0_tryMonths 38 = .ok (.iinc 5 1, 3) := by decide +kernel
theorem dX0_tryMonths_41 : decode cX0_tryMonths 41 = .ok (.goto (-21), 3) := by decide +kernel
theorem dX0_tryMonths_44 : decode cX0_tryMonths 44 = .ok (.aload_n 0, 1) := by decide +kernel
theorem dX0_tryMonths_45 : decode cX0_tryMonths 45 = .ok (.getfield 12, 3) := by decide +kernel
theorem dX0_tryMonths_48 : decode cX0_tryMonths 48 = .ok (.getfield 138, 3) := by decide +kernel
theorem dX0_tryMonths_51 : decode cX0_tryMonths 51 = .ok (.aload_n 1, 1) := by decide +kernel
theorem dX0_tryMonths_52 : decode cX0_tryMonths 52 = .ok (.getfield 138, 3) := by decide +kernel
theorem dX0_tryMonths_55 : decode cX0_tryMonths 55 = .ok (.isub, 1) := by decide +kernel
theorem dX0_tryMonths_56 : decode cX0_tryMonths 56 = .ok (.ireturn, 1) := by decide +kernel
theorem dX0_ruinedInTrial_0 : decode cX0_ruinedInTrial 0 = .ok (.aload_n 0, 1) := by decide +kernel
theorem dX0_ruinedInTrial_1 : decode cX0_ruinedInTrial 1 = .ok (.getfield 12, 3) := by decide +kernel
theorem dX0_ruinedInTrial_4 : decode cX0_ruinedInTrial 4 = .ok (.getfield 115, 3) := by decide +kernel
theorem dX0_ruinedInTrial_7 : decode cX0_ruinedInTrial 7 = .ok (.ireturn, 1) := by decide +kernel
theorem dX1_spelt_0 : decode cX1_spelt 0 = .ok (.getstatic 126, 3) := by decide +kernel
theorem dX1_spelt_3 : decode cX1_spelt 3 = .ok (.astore_n 3, 1) := by decide +kernel
theorem dX1_spelt_4 : decode cX1_spelt 4 = .ok (.aload_n 3, 1) := by decide +kernel
theorem dX1_spelt_5 : decode cX1_spelt 5 = .ok (.arraylength, 1) := by decide +kernel
theorem dX1_spelt_6 : decode cX1_spelt 6 = .ok (.istore 4, 2) := by decide +kernel
theorem dX1_spelt_8 : decode cX1_spelt 8 = .ok (.iconst 0, 1) := by decide +kernel
theorem dX1_spelt_9 : decode cX1_spelt 9 = .ok (.istore 5, 2) := by decide +kernel
theorem dX1_spelt_11 : decode cX1_spelt 11 = .ok (.iload 5, 2) := by decide +kernel
theorem dX1_spelt_13 : decode cX1_spelt 13 = .ok (.iload 4, 2) := by decide +kernel
theorem dX1_spelt_15 : decode cX1_spelt 15 = .ok (.if_icmp .ge 29, 3) := by decide +kernel
theorem dX1_spelt_18 : decode cX1_spelt 18 = .ok (.aload_n 3, 1) := by decide +kernel
theorem dX1_spelt_19 : decode cX1_spelt 19 = .ok (.iload 5, 2) := by decide +kernel
theorem dX1_spelt_21 : decode cX1_spelt 21 = .ok (.aaload, 1) := by decide +kernel
theorem dX1_spelt_22 : decode cX1_spelt 22 = .ok (.astore 6, 2) := by decide +kernel
theorem dX1_spelt_24 : decode cX1_spelt 24 = .ok (.aload 6, 2) := by decide +kernel
theorem dX1_spelt_26 : decode cX1_spelt 26 = .ok (.aload_n 0, 1) := by decide +kernel
theorem dX1_spelt_27 : decode cX1_spelt 27 = .ok (.iload_n 1, 1) := by decide +kernel
theorem dX1_spelt_28 : decode cX1_spelt 28 = .ok (.iload_n 2, 1) := by decide +kernel
theorem dX1_spelt_29 : decode cX1_spelt 29 = .ok (.invokevirtual 129, 3) := by decide +kernel
theorem dX1_spelt_32 : decode cX1_spelt 32 = .ok (.ifCond .eq 6, 3) := by decide +kernel
theorem dX1_spelt_35 : decode cX1_spelt 35 = .ok (.aload 6, 2) := by decide +kernel
theorem dX1_spelt_37 : decode cX1_spelt 37 = .ok (.areturn, 1) := by decide +kernel
theorem dX1_spelt_38 : decode cX1_spelt 38 = .ok (.iinc 5 1, 3) := by decide +kernel
theorem dX1_spelt_41 : decode cX1_spelt 41 = .ok (.goto (-30), 3) := by decide +kernel
theorem dX1_spelt_44 : decode cX1_spelt 44 = .ok (.getstatic 96, 3) := by decide +kernel
theorem dX1_spelt_47 : decode cX1_spelt 47 = .ok (.areturn, 1) := by decide +kernel
theorem dX1_isSpelt_0 : decode cX1_isSpelt 0 = .ok (.aload_n 0, 1) := by decide +kernel
theorem dX1_isSpelt_1 : decode cX1_isSpelt 1 = .ok (.getfield 118, 3) := by decide +kernel
theorem dX1_isSpelt_4 : decode cX1_isSpelt 4 = .ok (.invokevirtual 133, 3) := by decide +kernel
theorem dX1_isSpelt_7 : decode cX1_isSpelt 7 = .ok (.iload_n 3, 1) := by decide +kernel
theorem dX1_isSpelt_8 : decode cX1_isSpelt 8 = .ok (.iload_n 2, 1) := by decide +kernel
theorem dX1_isSpelt_9 : decode cX1_isSpelt 9 = .ok (.isub, 1) := by decide +kernel
theorem dX1_isSpelt_10 : decode cX1_isSpelt 10 = .ok (.if_icmp .eq 5, 3) := by decide +kernel
theorem dX1_isSpelt_13 : decode cX1_isSpelt 13 = .ok (.iconst 0, 1) := by decide +kernel
theorem dX1_isSpelt_14 : decode cX1_isSpelt 14 = .ok (.ireturn, 1) := by decide +kernel
theorem dX1_isSpelt_15 : decode cX1_isSpelt 15 = .ok (.iconst 0, 1) := by decide +kernel
theorem dX1_isSpelt_16 : decode cX1_isSpelt 16 = .ok (.istore 4, 2) := by decide +kernel
theorem dX1_isSpelt_18 : decode cX1_isSpelt 18 = .ok (.iload 4, 2) := by decide +kernel
theorem dX1_isSpelt_20 : decode cX1_isSpelt 20 = .ok (.aload_n 0, 1) := by decide +kernel
theorem dX1_isSpelt_21 : decode cX1_isSpelt 21 = .ok (.getfield 118, 3) := by decide +kernel
theorem dX1_isSpelt_24 : decode cX1_isSpelt 24 = .ok (.invokevirtual 133, 3) := by decide +kernel
theorem dX1_isSpelt_27 : decode cX1_isSpelt 27 = .ok (.if_icmp .ge 31, 3) := by decide +kernel
theorem dX1_isSpelt_30 : decode cX1_isSpelt 30 = .ok (.aload_n 0, 1) := by decide +kernel
theorem dX1_isSpelt_31 : decode cX1_isSpelt 31 = .ok (.getfield 118, 3) := by decide +kernel
theorem dX1_isSpelt_34 : decode cX1_isSpelt 34 = .ok (.iload 4, 2) := by decide +kernel
theorem dX1_isSpelt_36 : decode cX1_isSpelt 36 = .ok (.invokevirtual 139, 3) := by decide +kernel
theorem dX1_isSpelt_39 : decode cX1_isSpelt 39 = .ok (.aload_n 1, 1) := by decide +kernel
theorem dX1_isSpelt_40 : decode cX1_isSpelt 40 = .ok (.iload_n 2, 1) := by decide +kernel
theorem dX1_isSpelt_41 : decode cX1_isSpelt 41 = .ok (.iload 4, 2) := by decide +kernel
theorem dX1_isSpelt_43 : decode cX1_isSpelt 43 = .ok (.iadd, 1) := by decide +kernel
theorem dX1_isSpelt_44 : decode cX1_isSpelt 44 = .ok (.invokevirtual 143, 3) := by decide +kernel
theorem dX1_isSpelt_47 : decode cX1_isSpelt 47 = .ok (.if_icmp .eq 5, 3) := by decide +kernel
theorem dX1_isSpelt_50 : decode cX1_isSpelt 50 = .ok (.iconst 0, 1) := by decide +kernel
theorem dX1_isSpelt_51 : decode cX1_isSpelt 51 = .ok (.ireturn, 1) := by decide +kernel
theorem dX1_isSpelt_52 : decode cX1_isSpelt 52 = .ok (.iinc 4 1, 3) := by decide +kernel
theorem dX1_isSpelt_55 : decode cX1_isSpelt 55 = .ok (.goto (-37), 3) := by decide +kernel
theorem dX1_isSpelt_58 : decode cX1_isSpelt 58 = .ok (.iconst 1, 1) := by decide +kernel
theorem dX1_isSpelt_59 : decode cX1_isSpelt 59 = .ok (.ireturn, 1) := by decide +kernel
theorem dX2_init_0 : decode cX2_init 0 = .ok (.aload_n 0, 1) := by decide +kernel
theorem dX2_init_1 : decode cX2_init 1 = .ok (.invokespecial 3, 3) := by decide +kernel
theorem dX2_init_4 : decode cX2_init 4 = .ok (.aload_n 0, 1) := by decide +kernel
theorem dX2_init_5 : decode cX2_init 5 = .ok (.new 9, 3) := by decide +kernel
theorem dX2_init_8 : decode cX2_init 8 = .ok (.dup, 1) := by decide +kernel
theorem dX2_init_9 : decode cX2_init 9 = .ok (.bipush 12, 2) := by decide +kernel
theorem dX2_init_11 : decode cX2_init 11 = .ok (.invokespecial 11, 3) := by decide +kernel
theorem dX2_init_14 : decode cX2_init 14 = .ok (.putfield 14, 3) := by decide +kernel
theorem dX2_init_17 : decode cX2_init 17 = .ok (.aload_n 0, 1) := by decide +kernel
theorem dX2_init_18 : decode cX2_init 18 = .ok (.new 9, 3) := by decide +kernel
theorem dX2_init_21 : decode cX2_init 21 = .ok (.dup, 1) := by decide +kernel
theorem dX2_init_22 : decode cX2_init 22 = .ok (.bipush 12, 2) := by decide +kernel
theorem dX2_init_24 : decode cX2_init 24 = .ok (.invokespecial 11, 3) := by decide +kernel
theorem dX2_init_27 : decode cX2_init 27 = .ok (.putfield 20, 3) := by decide +kernel
theorem dX2_init_30 : decode cX2_init 30 = .ok (.aload_n 0, 1) := by decide +kernel
theorem dX2_init_31 : decode cX2_init 31 = .ok (.sipush 400, 3) := by decide +kernel
theorem dX2_init_34 : decode cX2_init 34 = .ok (.newarray .int, 2) := by decide +kernel
theorem dX2_init_36 : decode cX2_init 36 = .ok (.putfield 23, 3) := by decide +kernel
theorem dX2_init_39 : decode cX2_init 39 = .ok (.aload_n 0, 1) := by decide +kernel
theorem dX2_init_40 : decode cX2_init 40 = .ok (.new 9, 3) := by decide +kernel
theorem dX2_init_43 : decode cX2_init 43 = .ok (.dup, 1) := by decide +kernel
theorem dX2_init_44 : decode cX2_init 44 = .ok (.bipush 64, 2) := by decide +kernel
theorem dX2_init_46 : decode cX2_init 46 = .ok (.invokespecial 11, 3) := by decide +kernel
theorem dX2_init_49 : decode cX2_init 49 = .ok (.putfield 27, 3) := by decide +kernel
theorem dX2_init_52 : decode cX2_init 52 = .ok (.aload_n 0, 1) := by decide +kernel
theorem dX2_init_53 : decode cX2_init 53 = .ok (.iconst (-1), 1) := by decide +kernel
theorem dX2_init_54 : decode cX2_init 54 = .ok (.putfield 30, 3) := by decide +kernel
theorem dX2_init_57 : decode cX2_init 57 = .ok (.return_, 1) := by decide +kernel
theorem dX2_clearLines_0 : decode cX2_clearLines 0 = .ok (.aload_n 0, 1) := by decide +kernel
theorem dX2_clearLines_1 : decode cX2_clearLines 1 = .ok (.iconst 0, 1) := by decide +kernel
theorem dX2_clearLines_2 : decode cX2_clearLines 2 = .ok (.putfield 30, 3) := by decide +kernel
theorem dX2_clearLines_5 : decode cX2_clearLines 5 = .ok (.aload_n 0, 1) := by decide +kernel
theorem dX2_clearLines_6 : decode cX2_clearLines 6 = .ok (.iconst 0, 1) := by decide +kernel
theorem dX2_clearLines_7 : decode cX2_clearLines 7 = .ok (.putfield 34, 3) := by decide +kernel
theorem dX2_clearLines_10 : decode cX2_clearLines 10 = .ok (.return_, 1) := by decide +kernel
theorem dX2_addCode_0 : decode cX2_addCode 0 = .ok (.aload_n 0, 1) := by decide +kernel
theorem dX2_addCode_1 : decode cX2_addCode 1 = .ok (.getfield 34, 3) := by decide +kernel
theorem dX2_addCode_4 : decode cX2_addCode 4 = .ok (.ifCond .lt 35, 3) := by decide +kernel
theorem dX2_addCode_7 : decode cX2_addCode 7 = .ok (.aload_n 0, 1) := by decide +kernel
theorem dX2_addCode_8 : decode cX2_addCode 8 = .ok (.getfield 34, 3) := by decide +kernel
theorem dX2_addCode_11 : decode cX2_addCode 11 = .ok (.aload_n 0, 1) := by decide +kernel
theorem dX2_addCode_12 : decode cX2_addCode 12 = .ok (.getfield 23, 3) := by decide +kernel
theorem dX2_addCode_15 : decode cX2_addCode 15 = .ok (.arraylength, 1) := by decide +kernel
theorem dX2_addCode_16 : decode cX2_addCode 16 = .ok (.if_icmp .ge 23, 3) := by decide +kernel
theorem dX2_addCode_19 : decode cX2_addCode 19 = .ok (.aload_n 0, 1) := by decide +kernel
theorem dX2_addCode_20 : decode cX2_addCode 20 = .ok (.getfield 23, 3) := by decide +kernel
theorem dX2_addCode_23 : decode cX2_addCode 23 = .ok (.aload_n 0, 1) := by decide +kernel
theorem dX2_addCode_24 : decode cX2_addCode 24 = .ok (.getfield 34, 3) := by decide +kernel
theorem dX2_addCode_27 : decode cX2_addCode 27 = .ok (.iload_n 1, 1) := by decide +kernel
theorem dX2_addCode_28 : decode cX2_addCode 28 = .ok (.iastore, 1) := by decide +kernel
theorem dX2_addCode_29 : decode cX2_addCode 29 = .ok (.aload_n 0, 1) := by decide +kernel
theorem dX2_addCode_30 : decode cX2_addCode 30 = .ok (.dup, 1) := by decide +kernel
theorem dX2_addCode_31 : decode cX2_addCode 31 = .ok (.getfield 34, 3) := by decide +kernel
theorem dX2_addCode_34 : decode cX2_addCode 34 = .ok (.iconst 1, 1) := by decide +kernel
theorem dX2_addCode_35 : decode cX2_addCode 35 = .ok (.iadd, 1) := by decide +kernel
theorem dX2_addCode_36 : decode cX2_addCode 36 = .ok (.putfield 34, 3) := by decide +kernel
theorem dX2_addCode_39 : decode cX2_addCode 39 = .ok (.return_, 1) := by decide +kernel
theorem dX2_addLine_0 : decode cX2_addLine 0 = .ok (.aload_n 0, 1) := by decide +kernel
theorem dX2_addLine_1 : decode cX2_addLine 1 = .ok (.getfield 14, 3) := by decide +kernel
theorem dX2_addLine_4 : decode cX2_addLine 4 = .ok (.aload_n 0, 1) := by decide +kernel
theorem dX2_addLine_5 : decode cX2_addLine 5 = .ok (.getfield 30, 3) := by decide +kernel
theorem dX2_addLine_8 : decode cX2_addLine 8 = .ok (.iload_n 1, 1) := by decide +kernel
theorem dX2_addLine_9 : decode cX2_addLine 9 = .ok (.invokevirtual 37, 3) := by decide +kernel
theorem dX2_addLine_12 : decode cX2_addLine 12 = .ok (.aload_n 0, 1) := by decide +kernel
theorem dX2_addLine_13 : decode cX2_addLine 13 = .ok (.getfield 20, 3) := by decide +kernel
theorem dX2_addLine_16 : decode cX2_addLine 16 = .ok (.aload_n 0, 1) := by decide +kernel
theorem dX2_addLine_17 : decode cX2_addLine 17 = .ok (.getfield 30, 3) := by decide +kernel
theorem dX2_addLine_20 : decode cX2_addLine 20 = .ok (.aload_n 0, 1) := by decide +kernel
theorem dX2_addLine_21 : decode cX2_addLine 21 = .ok (.getfield 34, 3) := by decide +kernel
theorem dX2_addLine_24 : decode cX2_addLine 24 = .ok (.invokevirtual 37, 3) := by decide +kernel
theorem dX2_addLine_27 : decode cX2_addLine 27 = .ok (.aload_n 0, 1) := by decide +kernel
theorem dX2_addLine_28 : decode cX2_addLine 28 = .ok (.dup, 1) := by decide +kernel
theorem dX2_addLine_29 : decode cX2_addLine 29 = .ok (.getfield 30, 3) := by decide +kernel
theorem dX2_addLine_32 : decode cX2_addLine 32 = .ok (.iconst 1, 1) := by decide +kernel
theorem dX2_addLine_33 : decode cX2_addLine 33 = .ok (.iadd, 1) := by decide +kernel
theorem dX2_addLine_34 : decode cX2_addLine 34 = .ok (.putfield 30, 3) := by decide +kernel
theorem dX2_addLine_37 : decode cX2_addLine 37 = .ok (.return_, 1) := by decide +kernel
theorem dX2_copyAll_0 : decode cX2_copyAll 0 = .ok (.aload_n 0, 1) := by decide +kernel
theorem dX2_copyAll_1 : decode cX2_copyAll 1 = .ok (.aload_n 1, 1) := by decide +kernel
theorem dX2_copyAll_2 : decode cX2_copyAll 2 = .ok (.getfield 30, 3) := by decide +kernel
theorem dX2_copyAll_5 : decode cX2_copyAll 5 = .ok (.putfield 30, 3) := by decide +kernel
theorem dX2_copyAll_8 : decode cX2_copyAll 8 = .ok (.aload_n 0, 1) := by decide +kernel
theorem dX2_copyAll_9 : decode cX2_copyAll 9 = .ok (.aload_n 1, 1) := by decide +kernel
theorem dX2_copyAll_10 : decode cX2_copyAll 10 = .ok (.getfield 34, 3) := by decide +kernel
theorem dX2_copyAll_13 : decode cX2_copyAll 13 = .ok (.putfield 34, 3) := by decide +kernel
theorem dX2_copyAll_16 : decode cX2_copyAll 16 = .ok (.aload_n 0, 1) := by decide +kernel
theorem dX2_copyAll_17 : decode cX2_copyAll 17 = .ok (.getfield 14, 3) := by decide +kernel
theorem dX2_copyAll_20 : decode cX2_copyAll 20 = .ok (.aload_n 1, 1) := by decide +kernel
theorem dX2_copyAll_21 : decode cX2_copyAll 21 = .ok (.getfield 14, 3) := by decide +kernel
theorem dX2_copyAll_24 : decode cX2_copyAll 24 = .ok (.invokevirtual 41, 3) := by decide +kernel
theorem dX2_copyAll_27 : decode cX2_copyAll 27 = .ok (.aload_n 0, 1) := by decide +kernel
theorem dX2_copyAll_28 : decode cX2_copyAll 28 = .ok (.getfield 20, 3) := by decide +kernel
theorem dX2_copyAll_31 : decode cX2_copyAll 31 = .ok (.aload_n 1, 1) := by decide +kernel
theorem dX2_copyAll_32 : decode cX2_copyAll 32 = .ok (.getfield 20, 3) := by decide +kernel
theorem dX2_copyAll_35 : decode cX2_copyAll 35 = .ok (.invokevirtual 41, 3) := by decide +kernel
theorem dX2_copyAll_38 : decode cX2_copyAll 38 = .ok (.aload_n 1, 1) := by decide +kernel
theorem dX2_copyAll_39 : decode cX2_copyAll 39 = .ok (.getfield 23, 3) := by decide +kernel
theorem dX2_copyAll_42 : decode cX2_copyAll 42 = .ok (.iconst 0, 1) := by decide +kernel
theorem dX2_copyAll_43 : decode cX2_copyAll 43 = .ok (.aload_n 0, 1) := by decide +kernel
theorem dX2_copyAll_44 : decode cX2_copyAll 44 = .ok (.getfield 23, 3) := by decide +kernel
theorem dX2_copyAll_47 : decode cX2_copyAll 47 = .ok (.iconst 0, 1) := by decide +kernel
theorem dX2_copyAll_48 : decode cX2_copyAll 48 = .ok (.aload_n 0, 1) := by decide +kernel
theorem dX2_copyAll_49 : decode cX2_copyAll 49 = .ok (.getfield 23, 3) := by decide +kernel
theorem dX2_copyAll_52 : decode cX2_copyAll 52 = .ok (.arraylength, 1) := by decide +kernel
theorem dX2_copyAll_53 : decode cX2_copyAll 53 = .ok (.aload_n 1, 1) := by decide +kernel
theorem dX2_copyAll_54 : decode cX2_copyAll 54 = .ok (.getfield 23, 3) := by decide +kernel
theorem dX2_copyAll_57 : decode cX2_copyAll 57 = .ok (.arraylength, 1) := by decide +kernel
theorem dX2_copyAll_58 : decode cX2_copyAll 58 = .ok (.invokestatic 45, 3) := by decide +kernel
theorem dX2_copyAll_61 : decode cX2_copyAll 61 = .ok (.invokestatic 51, 3) := by decide +kernel
theorem dX2_copyAll_64 : decode cX2_copyAll 64 = .ok (.return_, 1) := by decide +kernel
theorem dX2_isPart_0 : decode cX2_isPart 0 = .ok (.iload_n 0, 1) := by decide +kernel
theorem dX2_isPart_1 : decode cX2_isPart 1 = .ok (.sipush 1000, 3) := by decide +kernel
theorem dX2_isPart_4 : decode cX2_isPart 4 = .ok (.if_icmp .lt 14, 3) := by decide +kernel
theorem dX2_isPart_7 : decode cX2_isPart 7 = .ok (.iload_n 0, 1) := by decide +kernel
theorem dX2_isPart_8 : decode cX2_isPart 8 = .ok (.sipush 1005, 3) := by decide +kernel
theorem dX2_isPart_11 : decode cX2_isPart 11 = .ok (.if_icmp .gt 7, 3) := by decide +kernel
theorem dX2_isPart_14 : decode cX2_isPart 14 = .ok (.iconst 1, 1) := by decide +kernel
theorem dX2_isPart_15 : decode cX2_isPart 15 = .ok (.goto 4, 3) := by decide +kernel
theorem dX2_isPart_18 : decode cX2_isPart 18 = .ok (.iconst 0, 1) := by decide +kernel
theorem dX2_isPart_19 : decode cX2_isPart 19 = .ok (.ireturn, 1) := by decide +kernel
theorem dX2_turnsBy_0 : decode cX2_turnsBy 0 = .ok (.aload_n 0, 1) := by decide +kernel
theorem dX2_turnsBy_1 : decode cX2_turnsBy 1 = .ok (.getfield 30, 3) := by decide +kernel
theorem dX2_turnsBy_4 : decode cX2_turnsBy 4 = .ok (.iconst (-1), 1) := by decide +kernel
theorem dX2_turnsBy_5 : decode cX2_turnsBy 5 = .ok (.if_icmp .ne 13, 3) := by decide +kernel
theorem dX2_turnsBy_8 : decode cX2_turnsBy 8 = .ok (.aload_n 1, 1) := by decide +kernel
theorem dX2_turnsBy_9 : decode cX2_turnsBy 9 = .ok (.getfield 57, 3) := by decide +kernel
theorem dX2_turnsBy_12 : decode cX2_turnsBy 12 = .ok (.aload_n 1, 1) := by decide +kernel
theorem dX2_turnsBy_13 : decode cX2_turnsBy 13 = .ok (.getfield 62, 3) := by decide +kernel
theorem dX2_turnsBy_16 : decode cX2_turnsBy 16 = .ok (.isub, 1) := by decide +kernel
theorem dX2_turnsBy_17 : decode cX2_turnsBy 17 = .ok (.ireturn, 1) := by decide +kernel
theorem dX2_turnsBy_18 : decode cX2_turnsBy 18 = .ok (.iconst 0, 1) := by decide +kernel
theorem dX2_turnsBy_19 : decode cX2_turnsBy 19 = .ok (.istore_n 2, 1) := by decide +kernel
theorem dX2_turnsBy_20 : decode cX2_turnsBy 20 = .ok (.iconst 0, 1) := by decide +kernel
theorem dX2_turnsBy_21 : decode cX2_turnsBy 21 = .ok (.istore_n 3, 1) := by decide +kernel
theorem dX2_turnsBy_22 : decode cX2_turnsBy 22 = .ok (.iconst 0, 1) := by decide +kernel
theorem dX2_turnsBy_23 : decode cX2_turnsBy 23 = .ok (.istore 4, 2) := by decide +kernel
theorem dX2_turnsBy_25 : decode cX2_turnsBy 25 = .ok (.iload 4, 2) := by decide +kernel
theorem dX2_turnsBy_27 : decode cX2_turnsBy 27 = .ok (.aload_n 0, 1) := by decide +kernel
theorem dX2_turnsBy_28 : decode cX2_turnsBy 28 = .ok (.getfield 30, 3) := by decide +kernel
theorem dX2_turnsBy_31 : decode cX2_turnsBy 31 = .ok (.if_icmp .ge 46, 3) := by decide +kernel
theorem dX2_turnsBy_34 : decode cX2_turnsBy 34 = .ok (.aload_n 0, 1) := by decide +kernel
theorem dX2_turnsBy_35 : decode cX2_turnsBy 35 = .ok (.getfield 20, 3) := by decide +kernel
theorem dX2_turnsBy_38 : decode cX2_turnsBy 38 = .ok (.iload 4, 2) := by decide +kernel
theorem dX2_turnsBy_40 : decode cX2_turnsBy 40 = .ok (.invokevirtual 65, 3) := by decide +kernel
theorem dX2_turnsBy_43 : decode cX2_turnsBy 43 = .ok (.istore 5, 2) := by decide +kernel
theorem dX2_turnsBy_45 : decode cX2_turnsBy 45 = .ok (.aload_n 0, 1) := by decide +kernel
theorem dX2_turnsBy_46 : decode cX2_turnsBy 46 = .ok (.iload_n 3, 1) := by decide +kernel
theorem dX2_turnsBy_47 : decode cX2_turnsBy 47 = .ok (.iload 5, 2) := by decide +kernel
theorem dX2_turnsBy_49 : decode cX2_turnsBy 49 = .ok (.aload_n 1, 1) := by decide +kernel
theorem dX2_turnsBy_50 : decode cX2_turnsBy 50 = .ok (.invokevirtual 69, 3) := by decide +kernel
theorem dX2_turnsBy_53 : decode cX2_turnsBy 53 = .ok (.ifCond .eq 15, 3) := by decide +kernel
theorem dX2_turnsBy_56 : decode cX2_turnsBy 56 = .ok (.iload_n 2, 1) := by decide +kernel
theorem dX2_turnsBy_57 : decode cX2_turnsBy 57 = .ok (.aload_n 0, 1) := by decide +kernel
theorem dX2_turnsBy_58 : decode cX2_turnsBy 58 = .ok (.getfield 14, 3) := by decide +kernel
theorem dX2_turnsBy_61 : decode cX2_turnsBy 61 = .ok (.iload 4, 2) := by decide +kernel
theorem dX2_turnsBy_63 : decode cX2_turnsBy 63 = .ok (.invokevirtual 65, 3) := by decide +kernel
theorem dX2_turnsBy_66 : decode cX2_turnsBy 66 = .ok (.iadd, 1) := by decide +kernel
theorem dX2_turnsBy_67 : decode cX2_turnsBy 67 = .ok (.istore_n 2, 1) := by decide +kernel
theorem dX2_turnsBy_68 : decode cX2_turnsBy 68 = .ok (.iload 5, 2) := by decide +kernel
theorem dX2_turnsBy_70 : decode cX2_turnsBy 70 = .ok (.istore_n 3, 1) := by decide +kernel
theorem dX2_turnsBy_71 : decode cX2_turnsBy 71 = .ok (.iinc 4 1, 3) := by decide +kernel
theorem dX2_turnsBy_74 : decode cX2_turnsBy 74 = .ok (.goto (-49), 3) := by decide +kernel
theorem dX2_turnsBy_77 : decode cX2_turnsBy 77 = .ok (.iload_n 2, 1) := by decide +kernel
theorem dX2_turnsBy_78 : decode cX2_turnsBy 78 = .ok (.ireturn, 1) := by decide +kernel
theorem dX2_isMet_0 : decode cX2_isMet 0 = .ok (.iload_n 1, 1) := by decide +kernel
theorem dX2_isMet_1 : decode cX2_isMet 1 = .ok (.iload_n 2, 1) := by decide +kernel
theorem dX2_isMet_2 : decode cX2_isMet 2 = .ok (.if_icmp .lt 5, 3) := by decide +kernel
theorem dX2_isMet_5 : decode cX2_isMet 5 = .ok (.iconst 1, 1) := by decide +kernel
theorem dX2_isMet_6 : decode cX2_isMet 6 = .ok (.ireturn, 1) := by decide +kernel
theorem dX2_isMet_7 : decode cX2_isMet 7 = .ok (.iconst 0, 1) := by decide +kernel
theorem dX2_isMet_8 : decode cX2_isMet 8 = .ok (.istore 4, 2) := by decide +kernel
theorem dX2_isMet_10 : decode cX2_isMet 10 = .ok (.iload_n 1, 1) := by decide +kernel
theorem dX2_isMet_11 : decode cX2_isMet 11 = .ok (.istore 5, 2) := by decide +kernel
theorem dX2_isMet_13 : decode cX2_isMet 13 = .ok (.iload 5, 2) := by decide +kernel
theorem dX2_isMet_15 : decode cX2_isMet 15 = .ok (.iload_n 2, 1) := by decide +kernel
theorem dX2_isMet_16 : decode cX2_isMet 16 = .ok (.if_icmp .ge 140, 3) := by decide +kernel
theorem dX2_isMet_19 : decode cX2_isMet 19 = .ok (.iload 5, 2) := by decide +kernel
theorem dX2_isMet_21 : decode cX2_isMet 21 = .ok (.aload_n 0, 1) := by decide +kernel
theorem dX2_isMet_22 : decode cX2_isMet 22 = .ok (.getfield 23, 3) := by decide +kernel
theorem dX2_isMet_25 : decode cX2_isMet 25 = .ok (.arraylength, 1) := by decide +kernel
theorem dX2_isMet_26 : decode cX2_isMet 26 = .ok (.if_icmp .ge 130, 3) := by decide +kernel
theorem dX2_isMet_29 : decode cX2_isMet 29 = .ok (.iload 5, 2) := by decide +kernel
theorem dX2_isMet_31 : decode cX2_isMet 31 = .ok (.ifCond .lt 13, 3) := by decide +kernel
theorem dX2_isMet_34 : decode cX2_isMet 34 = .ok (.aload_n 0, 1) := by decide +kernel
theorem dX2_isMet_35 : decode cX2_isMet 35 = .ok (.getfield 23, 3) := by decide +kernel
theorem dX2_isMet_38 : decode cX2_isMet 38 = .ok (.iload 5, 2) := by decide +kernel
theorem dX2_isMet_40 : decode cX2_isMet 40 = .ok (.iaload, 1) := by decide +kernel
theorem dX2_isMet_41 : decode cX2_isMet 41 = .ok (.goto 4, 3) := by decide +kernel
theorem dX2_isMet_44 : decode cX2_isMet 44 = .ok (.iconst 0, 1) := by decide +kernel
theorem dX2_isMet_45 : decode cX2_isMet 45 = .ok (.istore 6, 2) := by decide +kernel
theorem dX2_isMet_47 : decode cX2_isMet 47 = .ok (.iload 6, 2) := by decide +kernel
theorem dX2_isMet_49 : decode cX2_isMet 49 = .ok (.sipush 1008, 3) := by decide +kernel
theorem dX2_isMet_52 : decode cX2_isMet 52 = .ok (.if_icmp .ge 24, 3) := by decide +kernel
theorem dX2_isMet_55 : decode cX2_isMet 55 = .ok (.aload_n 0, 1) := by decide +kernel
theorem dX2_isMet_56 : decode cX2_isMet 56 = .ok (.getfield 27, 3) := by decide +kernel
theorem dX2_isMet_59 : decode cX2_isMet 59 = .ok (.iload 4, 2) := by decide +kernel
theorem dX2_isMet_61 : decode cX2_isMet 61 = .ok (.aload_n 3, 1) := by decide +kernel
theorem dX2_isMet_62 : decode cX2_isMet 62 = .ok (.iload 6, 2) := by decide +kernel
theorem dX2_isMet_64 : decode cX2_isMet 64 = .ok (.invokevirtual 73, 3) := by decide +kernel
theorem dX2_isMet_67 : decode cX2_isMet 67 = .ok (.invokevirtual 37, 3) := by decide +kernel
theorem dX2_isMet_70 : decode cX2_isMet 70 = .ok (.iinc 4 1, 3) := by decide +kernel
theorem dX2_isMet_73 : decode cX2_isMet 73 = .ok (.goto 77, 3) := by decide +kernel
theorem dX2_isMet_76 : decode cX2_isMet 76 = .ok (.iload 6, 2) := by decide +kernel
theorem dX2_isMet_78 : decode cX2_isMet 78 = .ok (.sipush 1013, 3) := by decide +kernel
theorem dX2_isMet_81 : decode cX2_isMet 81 = .ok (.if_icmp .ne 30, 3) := by decide +kernel
theorem dX2_isMet_84 : decode cX2_isMet 84 = .ok (.aload_n 0, 1) := by decide +kernel
theorem dX2_isMet_85 : decode cX2_isMet 85 = .ok (.getfield 27, 3) := by decide +kernel
theorem dX2_isMet_88 : decode cX2_isMet 88 = .ok (.iload 4, 2) := by decide +kernel
theorem dX2_isMet_90 : decode cX2_isMet 90 = .ok (.iconst 1, 1) := by decide +kernel
theorem dX2_isMet_91 : decode cX2_isMet 91 = .ok (.isub, 1) := by decide +kernel
theorem dX2_isMet_92 : decode cX2_isMet 92 = .ok (.iconst 1, 1) := by decide +kernel
theorem dX2_isMet_93 : decode cX2_isMet 93 = .ok (.aload_n 0, 1) := by decide +kernel
theorem dX2_isMet_94 : decode cX2_isMet 94 = .ok (.getfield 27, 3) := by decide +kernel
theorem dX2_isMet_97 : decode cX2_isMet 97 = .ok (.iload 4, 2) := by decide +kernel
theorem dX2_isMet_99 : decode cX2_isMet 99 = .ok (.iconst 1, 1) := by decide +kernel
theorem dX2_isMet_100 : decode cX2_isMet 100 = .ok (.isub, 1) := by decide +kernel
theorem dX2_isMet_101 : decode cX2_isMet 101 = .ok (.invokevirtual 65, 3) := by decide +kernel
theorem dX2_isMet_104 : decode cX2_isMet 104 = .ok (.isub, 1) := by decide +kernel
theorem dX2_isMet_105 : decode cX2_isMet 105 = .ok (.invokevirtual 37, 3) := by decide +kernel
theorem dX2_isMet_108 : decode cX2_isMet 108 = .ok (.goto 42, 3) := by decide +kernel
theorem dX2_isMet_111 : decode cX2_isMet 111 = .ok (.iinc 4 (-1), 3) := by decide +kernel
theorem dX2_isMet_114 : decode cX2_isMet 114 = .ok (.aload_n 0, 1) := by decide +kernel
theorem dX2_isMet_115 : decode cX2_isMet 115 = .ok (.getfield 27, 3) := by decide +kernel
theorem dX2_isMet_118 : decode cX2_isMet 118 = .ok (.iload 4, 2) := by decide +kernel
theorem dX2_isMet_120 : decode cX2_isMet 120 = .ok (.iconst 1, 1) := by decide +kernel
theorem dX2_isMet_121 : decode cX2_isMet 121 = .ok (.isub, 1) := by decide +kernel
theorem dX2_isMet_122 : decode cX2_isMet 122 = .ok (.iload 6, 2) := by decide +kernel
theorem dX2_isMet_124 : decode cX2_isMet 124 = .ok (.aload_n 0, 1) := by decide +kernel
theorem dX2_isMet_125 : decode cX2_isMet 125 = .ok (.getfield 27, 3) := by decide +kernel
theorem dX2_isMet_128 : decode cX2_isMet 128 = .ok (.iload 4, 2) := by decide +kernel
theorem dX2_isMet_130 : decode cX2_isMet 130 = .ok (.iconst 1, 1) := by decide +kernel
theorem dX2_isMet_131 : decode cX2_isMet 131 = .ok (.isub, 1) := by decide +kernel
theorem dX2_isMet_132 : decode cX2_isMet 132 = .ok (.invokevirtual 65, 3) := by decide +kernel
theorem dX2_isMet_135 : decode cX2_isMet 135 = .ok (.aload_n 0, 1) := by decide +kernel
theorem dX2_isMet_136 : decode cX2_isMet 136 = .ok (.getfield 27, 3) := by decide +kernel
theorem dX2_isMet_139 : decode cX2_isMet 139 = .ok (.iload 4, 2) := by decide +kernel
theorem dX2_isMet_141 : decode cX2_isMet 141 = .ok (.invokevirtual 65, 3) := by decide +kernel
theorem dX2_isMet_144 : decode cX2_isMet 144 = .ok (.invokestatic 76, 3) := by decide +kernel
theorem dX2_isMet_147 : decode cX2_isMet 147 = .ok (.invokevirtual 37, 3) := by decide +kernel
theorem dX2_isMet_150 : decode cX2_isMet 150 = .ok (.iinc 5 1, 3) := by decide +kernel
theorem dX2_isMet_153 : decode cX2_isMet 153 = .ok (.goto (-140), 3) := by decide +kernel
theorem dX2_isMet_156 : decode cX2_isMet 156 = .ok (.aload_n 0, 1) := by decide +kernel
theorem dX2_isMet_157 : decode cX2_isMet 157 = .ok (.getfield 27, 3) := by decide +kernel
theorem dX2_isMet_160 : decode cX2_isMet 160 = .ok (.iconst 0, 1) := by decide +kernel
theorem dX2_isMet_161 : decode cX2_isMet 161 = .ok (.invokevirtual 65, 3) := by decide +kernel
theorem dX2_isMet_164 : decode cX2_isMet 164 = .ok (.ifCond .eq 7, 3) := by decide +kernel
theorem dX2_isMet_167 : decode cX2_isMet 167 = .ok (.iconst 1, 1) := by decide +kernel
theorem dX2_isMet_168 : decode cX2_isMet 168 = .ok (.goto 4, 3) := by decide +kernel
theorem dX2_isMet_171 : decode cX2_isMet 171 = .ok (.iconst 0, 1) := by decide +kernel
theorem dX2_isMet_172 : decode cX2_isMet 172 = .ok (.ireturn, 1) := by decide +kernel
theorem dX2_joined_0 : decode cX2_joined 0 = .ok (.iload_n 0, 1) := by decide +kernel
theorem dX2_joined_1 : decode cX2_joined 1 = .ok (.tableswitch 61 1008 1011 #[31, 35, 46, 57], 31) := by decide +kernel
theorem dX2_joined_32 : decode cX2_joined 32 = .ok (.iload_n 1, 1) := by decide +kernel
theorem dX2_joined_33 : decode cX2_joined 33 = .ok (.iload_n 2, 1) := by decide +kernel
theorem dX2_joined_34 : decode cX2_joined 34 = .ok (.iadd, 1) := by decide +kernel
theorem dX2_joined_35 : decode cX2_joined 35 = .ok (.ireturn, 1) := by decide +kernel
theorem dX2_joined_36 : decode cX2_joined 36 = .ok (.iload_n 1, 1) := by decide +kernel
theorem dX2_joined_37 : decode cX2_joined 37 = .ok (.iload_n 2, 1) := by decide +kernel
theorem dX2_joined_38 : decode cX2_joined 38 = .ok (.if_icmp .ge 7, 3) := by decide +kernel
theorem dX2_joined_41 : decode cX2_joined 41 = .ok (.iconst 1, 1) := by decide +kernel
theorem dX2_joined_42 : decode cX2_joined 42 = .ok (.goto 4, 3) := by decide +kernel
theorem dX2_joined_45 : decode cX2_joined 45 = .ok (.iconst 0, 1) := by decide +kernel
theorem dX2_joined_46 : decode cX2_joined 46 = .ok (.ireturn, 1) := by decide +kernel
theorem dX2_joined_47 : decode cX2_joined 47 = .ok (.iload_n 1, 1) := by decide +kernel
theorem dX2_joined_48 : decode cX2_joined 48 = .ok (.iload_n 2, 1) := by decide +kernel
theorem dX2_joined_49 : decode cX2_joined 49 = .ok (.if_icmp .le 7, 3) := by decide +kernel
theorem dX2_joined_52 : decode cX2_joined 52 = .ok (.iconst 1, 1) := by decide +kernel
theorem dX2_joined_53 : decode cX2_joined 53 = .ok (.goto 4, 3) := by decide +kernel
theorem dX2_joined_56 : decode cX2_joined 56 = .ok (.iconst 0, 1) := by decide +kernel
theorem dX2_joined_57 : decode cX2_joined 57 = .ok (.ireturn, 1) := by decide +kernel
theorem dX2_joined_58 : decode cX2_joined 58 = .ok (.iload_n 1, 1) := by decide +kernel
theorem dX2_joined_59 : decode cX2_joined 59 = .ok (.iload_n 2, 1) := by decide +kernel
theorem dX2_joined_60 : decode cX2_joined 60 = .ok (.iand, 1) := by decide +kernel
theorem dX2_joined_61 : decode cX2_joined 61 = .ok (.ireturn, 1) := by decide +kernel
theorem dX2_joined_62 : decode cX2_joined 62 = .ok (.iload_n 1, 1) := by decide +kernel
theorem dX2_joined_63 : decode cX2_joined 63 = .ok (.iload_n 2, 1) := by decide +kernel
theorem dX2_joined_64 : decode cX2_joined 64 = .ok (.ior, 1) := by decide +kernel
theorem dX2_joined_65 : decode cX2_joined 65 = .ok (.ireturn, 1) := by decide +kernel
theorem dX3_init_0 : decode cX3_init 0 = .ok (.aload_n 0, 1) := by decide +kernel
theorem dX3_init_1 : decode cX3_init 1 = .ok (.invokespecial 3, 3) := by decide +kernel
theorem dX3_init_4 : decode cX3_init 4 = .ok (.aload_n 0, 1) := by decide +kernel
theorem dX3_init_5 : decode cX3_init 5 = .ok (.new 9, 3) := by decide +kernel
theorem dX3_init_8 : decode cX3_init 8 = .ok (.dup, 1) := by decide +kernel
theorem dX3_init_9 : decode cX3_init 9 = .ok (.invokespecial 11, 3) := by decide +kernel
theorem dX3_init_12 : decode cX3_init 12 = .ok (.putfield 12, 3) := by decide +kernel
theorem dX3_init_15 : decode cX3_init 15 = .ok (.return_, 1) := by decide +kernel
theorem dX3_readsLine_0 : decode cX3_readsLine 0 = .ok (.aload_n 0, 1) := by decide +kernel
theorem dX3_readsLine_1 : decode cX3_readsLine 1 = .ok (.getfield 18, 3) := by decide +kernel
theorem dX3_readsLine_4 : decode cX3_readsLine 4 = .ok (.getstatic 22, 3) := by decide +kernel
theorem dX3_readsLine_7 : decode cX3_readsLine 7 = .ok (.if_acmp .ne 7, 3) := by decide +kernel
theorem dX3_readsLine_10 : decode cX3_readsLine 10 = .ok (.iconst 1, 1) := by decide +kernel
theorem dX3_readsLine_11 : decode cX3_readsLine 11 = .ok (.goto 4, 3) := by decide +kernel
theorem dX3_readsLine_14 : decode cX3_readsLine 14 = .ok (.iconst 0, 1) := by decide +kernel
theorem dX3_readsLine_15 : decode cX3_readsLine 15 = .ok (.istore_n 1, 1) := by decide +kernel
theorem dX3_readsLine_16 : decode cX3_readsLine 16 = .ok (.iload_n 1, 1) := by decide +kernel
theorem dX3_readsLine_17 : decode cX3_readsLine 17 = .ok (.ifCond .ne 18, 3) := by decide +kernel
theorem dX3_readsLine_20 : decode cX3_readsLine 20 = .ok (.aload_n 0, 1) := by decide +kernel
theorem dX3_readsLine_21 : decode cX3_readsLine 21 = .ok (.getfield 18, 3) := by decide +kernel
theorem dX3_readsLine_24 : decode cX3_readsLine 24 = .ok (.getstatic 27, 3) := by decide +kernel
theorem dX3_readsLine_27 : decode cX3_readsLine 27 = .ok (.if_acmp .eq 8, 3) := by decide +kernel
theorem dX3_readsLine_30 : decode cX3_readsLine 30 = .ok (.aload_n 0, 1) := by decide +kernel
theorem dX3_readsLine_31 : decode cX3_readsLine 31 = .ok (.invokevirtual 30, 3) := by decide +kernel
theorem dX3_readsLine_34 : decode cX3_readsLine 34 = .ok (.ireturn, 1) := by decide +kernel
theorem dX3_readsLine_35 : decode cX3_readsLine 35 = .ok (.aload_n 0, 1) := by decide +kernel
theorem dX3_readsLine_36 : decode cX3_readsLine 36 = .ok (.invokevirtual 34, 3) := by decide +kernel
theorem dX3_readsLine_39 : decode cX3_readsLine 39 = .ok (.aload_n 0, 1) := by decide +kernel
theorem dX3_readsLine_40 : decode cX3_readsLine 40 = .ok (.bipush 30, 2) := by decide +kernel
theorem dX3_readsLine_42 : decode cX3_readsLine 42 = .ok (.invokevirtual 37, 3) := by decide +kernel
theorem dX3_readsLine_45 : decode cX3_readsLine 45 = .ok (.istore_n 2, 1) := by decide +kernel
theorem dX3_readsLine_46 : decode cX3_readsLine 46 = .ok (.iload_n 2, 1) := by decide +kernel
theorem dX3_readsLine_47 : decode cX3_readsLine 47 = .ok (.iconst (-1), 1) := by decide +kernel
theorem dX3_readsLine_48 : decode cX3_readsLine 48 = .ok (.if_icmp .eq 21, 3) := by decide +kernel
theorem dX3_readsLine_51 : decode cX3_readsLine 51 = .ok (.aload_n 0, 1) := by decide +kernel
theorem dX3_readsLine_52 : decode cX3_readsLine 52 = .ok (.getstatic 41, 3) := by decide +kernel
theorem dX3_readsLine_55 : decode cX3_readsLine 55 = .ok (.invokevirtual 44, 3) := by decide +kernel
theorem dX3_readsLine_58 : decode cX3_readsLine 58 = .ok (.ifCond .eq 13, 3) := by decide +kernel
theorem dX3_readsLine_61 : decode cX3_readsLine 61 = .ok (.aload_n 0, 1) := by decide +kernel
theorem dX3_readsLine_62 : decode cX3_readsLine 62 = .ok (.iconst 0, 1) := by decide +kernel
theorem dX3_readsLine_63 : decode cX3_readsLine 63 = .ok (.invokevirtual 48, 3) := by decide +kernel
theorem dX3_readsLine_66 : decode cX3_readsLine 66 = .ok (.ifCond .ne 5, 3) := by decide +kernel
theorem dX3_readsLine_69 : decode cX3_readsLine 69 = .ok (.iconst 0, 1) := by decide +kernel
theorem dX3_readsLine_70 : decode cX3_readsLine 70 = .ok (.ireturn, 1) := by decide +kernel
theorem dX3_readsLine_71 : decode cX3_readsLine 71 = .ok (.aload_n 0, 1) := by decide +kernel
theorem dX3_readsLine_72 : decode cX3_readsLine 72 = .ok (.getfield 12, 3) := by decide +kernel
theorem dX3_readsLine_75 : decode cX3_readsLine 75 = .ok (.iload_n 1, 1) := by decide +kernel
theorem dX3_readsLine_76 : decode cX3_readsLine 76 = .ok (.ifCond .eq 7, 3) := by decide +kernel
theorem dX3_readsLine_79 : decode cX3_readsLine 79 = .ok (.iload_n 2, 1) := by decide +kernel
theorem dX3_readsLine_80 : decode cX3_readsLine 80 = .ok (.goto 5, 3) := by decide +kernel
theorem dX3_readsLine_83 : decode cX3_readsLine 83 = .ok (.iload_n 2, 1) := by decide +kernel
theorem dX3_readsLine_84 : decode cX3_readsLine 84 = .ok (.ineg, 1) := by decide +kernel
theorem dX3_readsLine_85 : decode cX3_readsLine 85 = .ok (.invokevirtual 52, 3) := by decide +kernel
theorem dX3_readsLine_88 : decode cX3_readsLine 88 = .ok (.iconst 1, 1) := by decide +kernel
theorem dX3_readsLine_89 : decode cX3_readsLine 89 = .ok (.ireturn, 1) := by decide +kernel
theorem dX3_readsEither_0 : decode cX3_readsEither 0 = .ok (.aload_n 0, 1) := by decide +kernel
theorem dX3_readsEither_1 : decode cX3_readsEither 1 = .ok (.iload_n 1, 1) := by decide +kernel
theorem dX3_readsEither_2 : decode cX3_readsEither 2 = .ok (.invokevirtual 56, 3) := by decide +kernel
theorem dX3_readsEither_5 : decode cX3_readsEither 5 = .ok (.ifCond .ne 5, 3) := by decide +kernel
theorem dX3_readsEither_8 : decode cX3_readsEither 8 = .ok (.iconst 0, 1) := by decide +kernel
theorem dX3_readsEither_9 : decode cX3_readsEither 9 = .ok (.ireturn, 1) := by decide +kernel
theorem dX3_readsEither_10 : decode cX3_readsEither 10 = .ok (.iconst 0, 1) := by decide +kernel
theorem dX3_readsEither_11 : decode cX3_readsEither 11 = .ok (.istore_n 2, 1) := by decide +kernel
theorem dX3_readsEither_12 : decode cX3_readsEither 12 = .ok (.iload_n 2, 1) := by decide +kernel
theorem dX3_readsEither_13 : decode cX3_readsEither 13 = .ok (.sipush 400, 3) := by decide +kernel
theorem dX3_readsEither_16 : decode cX3_readsEither 16 = .ok (.if_icmp .ge 39, 3) := by decide +kernel
theorem dX3_readsEither_19 : decode cX3_readsEither 19 = .ok (.aload_n 0, 1) := by decide +kernel
theorem dX3_readsEither_20 : decode cX3_readsEither 20 = .ok (.getstatic 59, 3) := by decide +kernel
theorem dX3_readsEither_23 : decode cX3_readsEither 23 = .ok (.invokevirtual 44, 3) := by decide +kernel
theorem dX3_readsEither_26 : decode cX3_readsEither 26 = .ok (.ifCond .eq 29, 3) := by decide +kernel
theorem dX3_readsEither_29 : decode cX3_readsEither 29 = .ok (.aload_n 0, 1) := by decide +kernel
theorem dX3_readsEither_30 : decode cX3_readsEither 30 = .ok (.iload_n 1, 1) := by decide +kernel
theorem dX3_readsEither_31 : decode cX3_readsEither 31 = .ok (.invokevirtual 56, 3) := by decide +kernel
theorem dX3_readsEither_34 : decode cX3_readsEither 34 = .ok (.ifCond .ne 5, 3) := by decide +kernel
theorem dX3_readsEither_37 : decode cX3_readsEither 37 = .ok (.iconst 0, 1) := by decide +kernel
theorem dX3_readsEither_38 : decode cX3_readsEither 38 = .ok (.ireturn, 1) := by decide +kernel
theorem dX3_readsEither_39 : decode cX3_readsEither 39 = .ok (.aload_n 0, 1) := by decide +kernel
theorem dX3_readsEither_40 : decode cX3_readsEither 40 = .ok (.getfield 12, 3) := by decide +kernel
theorem dX3_readsEither_43 : decode cX3_readsEither 43 = .ok (.sipush 1012, 3) := by decide +kernel
theorem dX3_readsEither_46 : decode cX3_readsEither 46 = .ok (.invokevirtual 62, 3) := by decide +kernel
theorem dX3_readsEither_49 : decode cX3_readsEither 49 = .ok (.iinc 2 1, 3) := by decide +kernel
theorem dX3_readsEither_52 : decode cX3_readsEither 52 = .ok (.goto (-40), 3) := by decide +kernel
theorem dX3_readsEither_55 : decode cX3_readsEither 55 = .ok (.iconst 1, 1) := by decide +kernel
theorem dX3_readsEither_56 : decode cX3_readsEither 56 = .ok (.ireturn, 1) := by decide +kernel
theorem dX3_readsAll_0 : decode cX3_readsAll 0 = .ok (.aload_n 0, 1) := by decide +kernel
theorem dX3_readsAll_1 : decode cX3_readsAll 1 = .ok (.iload_n 1, 1) := by decide +kernel
theorem dX3_readsAll_2 : decode cX3_readsAll 2 = .ok (.invokevirtual 65, 3) := by decide +kernel
theorem dX3_readsAll_5 : decode cX3_readsAll 5 = .ok (.ifCond .ne 5, 3) := by decide +kernel
theorem dX3_readsAll_8 : decode cX3_readsAll 8 = .ok (.iconst 0, 1) := by decide +kernel
theorem dX3_readsAll_9 : decode cX3_readsAll 9 = .ok (.ireturn, 1) := by decide +kernel
theorem dX3_readsAll_10 : decode cX3_readsAll 10 = .ok (.iconst 0, 1) := by decide +kernel
theorem dX3_readsAll_11 : decode cX3_readsAll 11 = .ok (.istore_n 2, 1) := by decide +kernel
theorem dX3_readsAll_12 : decode cX3_readsAll 12 = .ok (.iload_n 2, 1) := by decide +kernel
theorem dX3_readsAll_13 : decode cX3_readsAll 13 = .ok (.sipush 400, 3) := by decide +kernel
theorem dX3_readsAll_16 : decode cX3_readsAll 16 = .ok (.if_icmp .ge 39, 3) := by decide +kernel
theorem dX3_readsAll_19 : decode cX3_readsAll 19 = .ok (.aload_n 0, 1) := by decide +kernel
theorem dX3_readsAll_20 : decode cX3_readsAll 20 = .ok (.getstatic 68, 3) := by decide +kernel
theorem dX3_readsAll_23 : decode cX3_readsAll 23 = .ok (.invokevirtual 44, 3) := by decide +kernel
theorem dX3_readsAll_26 : decode cX3_readsAll 26 = .ok (.ifCond .eq 29, 3) := by decide +kernel
theorem dX3_readsAll_29 : decode cX3_readsAll 29 = .ok (.aload_n 0, 1) := by decide +kernel
theorem dX3_readsAll_30 : decode cX3_readsAll 30 = .ok (.iload_n 1, 1) := by decide +kernel
theorem dX3_readsAll_31 : decode cX3_readsAll 31 = .ok (.invokevirtual 65, 3) := by decide +kernel
theorem dX3_readsAll_34 : decode cX3_readsAll 34 = .ok (.ifCond .ne 5, 3) := by decide +kernel
theorem dX3_readsAll_37 : decode cX3_readsAll 37 = .ok (.iconst 0, 1) := by decide +kernel
theorem dX3_readsAll_38 : decode cX3_readsAll 38 = .ok (.ireturn, 1) := by decide +kernel
theorem dX3_readsAll_39 : decode cX3_readsAll 39 = .ok (.aload_n 0, 1) := by decide +kernel
theorem dX3_readsAll_40 : decode cX3_readsAll 40 = .ok (.getfield 12, 3) := by decide +kernel
theorem dX3_readsAll_43 : decode cX3_readsAll 43 = .ok (.sipush 1011, 3) := by decide +kernel
theorem dX3_readsAll_46 : decode cX3_readsAll 46 = .ok (.invokevirtual 62, 3) := by decide +kernel
theorem dX3_readsAll_49 : decode cX3_readsAll 49 = .ok (.iinc 2 1, 3) := by decide +kernel
theorem dX3_readsAll_52 : decode cX3_readsAll 52 = .ok (.goto (-40), 3) := by decide +kernel
theorem dX3_readsAll_55 : decode cX3_readsAll 55 = .ok (.iconst 1, 1) := by decide +kernel
theorem dX3_readsAll_56 : decode cX3_readsAll 56 = .ok (.ireturn, 1) := by decide +kernel
theorem dX3_readsAtom_0 : decode cX3_readsAtom 0 = .ok (.aload_n 0, 1) := by decide +kernel
theorem dX3_readsAtom_1 : decode cX3_readsAtom 1 = .ok (.getfield 18, 3) := by decide +kernel
theorem dX3_readsAtom_4 : decode cX3_readsAtom 4 = .ok (.getstatic 71, 3) := by decide +kernel
theorem dX3_readsAtom_7 : decode cX3_readsAtom 7 = .ok (.if_acmp .eq 13, 3) := by decide +kernel
theorem dX3_readsAtom_10 : decode cX3_readsAtom 10 = .ok (.aload_n 0, 1) := by decide +kernel
theorem dX3_readsAtom_11 : decode cX3_readsAtom 11 = .ok (.getfield 18, 3) := by decide +kernel
theorem dX3_readsAtom_14 : decode cX3_readsAtom 14 = .ok (.getstatic 74, 3) := by decide +kernel
theorem dX3_readsAtom_17 : decode cX3_readsAtom 17 = .ok (.if_acmp .ne 14, 3) := by decide +kernel
theorem dX3_readsAtom_20 : decode cX3_readsAtom 20 = .ok (.iload_n 1, 1) := by decide +kernel
theorem dX3_readsAtom_21 : decode cX3_readsAtom 21 = .ok (.bipush 6, 2) := by decide +kernel
theorem dX3_readsAtom_23 : decode cX3_readsAtom 23 = .ok (.if_icmp .lt 8, 3) := by decide +kernel
theorem dX3_readsAtom_26 : decode cX3_readsAtom 26 = .ok (.aload_n 0, 1) := by decide +kernel
theorem dX3_readsAtom_27 : decode cX3_readsAtom 27 = .ok (.invokevirtual 30, 3) := by decide +kernel
theorem dX3_readsAtom_30 : decode cX3_readsAtom 30 = .ok (.ireturn, 1) := by decide +kernel
theorem dX3_readsAtom_31 : decode cX3_readsAtom 31 = .ok (.aload_n 0, 1) := by decide +kernel
theorem dX3_readsAtom_32 : decode cX3_readsAtom 32 = .ok (.getstatic 74, 3) := by decide +kernel
theorem dX3_readsAtom_35 : decode cX3_readsAtom 35 = .ok (.invokevirtual 44, 3) := by decide +kernel
theorem dX3_readsAtom_38 : decode cX3_readsAtom 38 = .ok (.ifCond .eq 29, 3) := by decide +kernel
theorem dX3_readsAtom_41 : decode cX3_readsAtom 41 = .ok (.aload_n 0, 1) := by decide +kernel
theorem dX3_readsAtom_42 : decode cX3_readsAtom 42 = .ok (.iload_n 1, 1) := by decide +kernel
theorem dX3_readsAtom_43 : decode cX3_readsAtom 43 = .ok (.iconst 1, 1) := by decide +kernel
theorem dX3_readsAtom_44 : decode cX3_readsAtom 44 = .ok (.iadd, 1) := by decide +kernel
theorem dX3_readsAtom_45 : decode cX3_readsAtom 45 = .ok (.invokevirtual 48, 3) := by decide +kernel
theorem dX3_readsAtom_48 : decode cX3_readsAtom 48 = .ok (.ifCond .eq 17, 3) := by decide +kernel
theorem dX3_readsAtom_51 : decode cX3_readsAtom 51 = .ok (.aload_n 0, 1) := by decide +kernel
theorem dX3_readsAtom_52 : decode cX3_readsAtom 52 = .ok (.getstatic 77, 3) := by decide +kernel
theorem dX3_readsAtom_55 : decode cX3_readsAtom 55 = .ok (.invokevirtual 80, 3) := by decide +kernel
theorem dX3_readsAtom_58 : decode cX3_readsAtom 58 = .ok (.ifCond .eq 7, 3) := by decide +kernel
theorem dX3_readsAtom_61 : decode cX3_readsAtom 61 = .ok (.iconst 1, 1) := by decide +kernel
theorem dX3_readsAtom_62 : decode cX3_readsAtom 62 = .ok (.goto 4, 3) := by decide +kernel
theorem dX3_readsAtom_65 : decode cX3_readsAtom 65 = .ok (.iconst 0, 1) := by decide +kernel
theorem dX3_readsAtom_66 : decode cX3_readsAtom 66 = .ok (.ireturn, 1) := by decide +kernel
theorem dX3_readsAtom_67 : decode cX3_readsAtom 67 = .ok (.aload_n 0, 1) := by decide +kernel
theorem dX3_readsAtom_68 : decode cX3_readsAtom 68 = .ok (.getfield 18, 3) := by decide +kernel
theorem dX3_readsAtom_71 : decode cX3_readsAtom 71 = .ok (.getstatic 71, 3) := by decide +kernel
theorem dX3_readsAtom_74 : decode cX3_readsAtom 74 = .ok (.if_acmp .ne 11, 3) := by decide +kernel
theorem dX3_readsAtom_77 : decode cX3_readsAtom 77 = .ok (.aload_n 0, 1) := by decide +kernel
theorem dX3_readsAtom_78 : decode cX3_readsAtom 78 = .ok (.iload_n 1, 1) := by decide +kernel
theorem dX3_readsAtom_79 : decode cX3_readsAtom 79 = .ok (.iconst 1, 1) := by decide +kernel
theorem dX3_readsAtom_80 : decode cX3_readsAtom 80 = .ok (.iadd, 1) := by decide +kernel
theorem dX3_readsAtom_81 : decode cX3_readsAtom 81 = .ok (.invokevirtual 83, 3) := by decide +kernel
theorem dX3_readsAtom_84 : decode cX3_readsAtom 84 = .ok (.ireturn, 1) := by decide +kernel
theorem dX3_readsAtom_85 : decode cX3_readsAtom 85 = .ok (.aload_n 0, 1) := by decide +kernel
theorem dX3_readsAtom_86 : decode cX3_readsAtom 86 = .ok (.getfield 18, 3) := by decide +kernel
theorem dX3_readsAtom_89 : decode cX3_readsAtom 89 = .ok (.getstatic 86, 3) := by decide +kernel
theorem dX3_readsAtom_92 : decode cX3_readsAtom 92 = .ok (.if_acmp .eq 13, 3) := by decide +kernel
theorem dX3_readsAtom_95 : decode cX3_readsAtom 95 = .ok (.aload_n 0, 1) := by decide +kernel
theorem dX3_readsAtom_96 : decode cX3_readsAtom 96 = .ok (.getfield 18, 3) := by decide +kernel
theorem dX3_readsAtom_99 : decode cX3_readsAtom 99 = .ok (.getstatic 89, 3) := by decide +kernel
theorem dX3_readsAtom_102 : decode cX3_readsAtom 102 = .ok (.if_acmp .ne 23, 3) := by decide +kernel
theorem dX3_readsAtom_105 : decode cX3_readsAtom 105 = .ok (.aload_n 0, 1) := by decide +kernel
theorem dX3_readsAtom_106 : decode cX3_readsAtom 106 = .ok (.getfield 12, 3) := by decide +kernel
theorem dX3_readsAtom_109 : decode cX3_readsAtom 109 = .ok (.aload_n 0, 1) := by decide +kernel
theorem dX3_readsAtom_110 : decode cX3_readsAtom 110 = .ok (.getfield 18, 3) := by decide +kernel
theorem dX3_readsAtom_113 : decode cX3_readsAtom 113 = .ok (.getfield 92, 3) := by decide +kernel
theorem dX3_readsAtom_116 : decode cX3_readsAtom 116 = .ok (.invokevirtual 62, 3) := by decide +kernel
theorem dX3_readsAtom_119 : decode cX3_readsAtom 119 = .ok (.aload_n 0, 1) := by decide +kernel
theorem dX3_readsAtom_120 : decode cX3_readsAtom 120 = .ok (.invokevirtual 34, 3) := by decide +kernel
theorem dX3_readsAtom_123 : decode cX3_readsAtom 123 = .ok (.iconst 1, 1) := by decide +kernel
theorem dX3_readsAtom_124 : decode cX3_readsAtom 124 = .ok (.ireturn, 1) := by decide +kernel
theorem dX3_readsAtom_125 : decode cX3_readsAtom 125 = .ok (.aload_n 0, 1) := by decide +kernel
theorem dX3_readsAtom_126 : decode cX3_readsAtom 126 = .ok (.invokevirtual 96, 3) := by decide +kernel
theorem dX3_readsAtom_129 : decode cX3_readsAtom 129 = .ok (.ifCond .ne 5, 3) := by decide +kernel
theorem dX3_readsAtom_132 : decode cX3_readsAtom 132 = .ok (.iconst 0, 1) := by decide +kernel
theorem dX3_readsAtom_133 : decode cX3_readsAtom 133 = .ok (.ireturn, 1) := by decide +kernel
theorem dX3_readsAtom_134 : decode cX3_readsAtom 134 = .ok (.aload_n 0, 1) := by decide +kernel
theorem dX3_readsAtom_135 : decode cX3_readsAtom 135 = .ok (.getfield 18, 3) := by decide +kernel
theorem dX3_readsAtom_138 : decode cX3_readsAtom 138 = .ok (.astore_n 2, 1) := by decide +kernel
theorem dX3_readsAtom_139 : decode cX3_readsAtom 139 = .ok (.aload_n 2, 1) := by decide +kernel
theorem dX3_readsAtom_140 : decode cX3_readsAtom 140 = .ok (.getstatic 99, 3) := by decide +kernel
theorem dX3_readsAtom_143 : decode cX3_readsAtom 143 = .ok (.if_acmp .eq 15, 3) := by decide +kernel
theorem dX3_readsAtom_146 : decode cX3_readsAtom 146 = .ok (.aload_n 2, 1) := by decide +kernel
theorem dX3_readsAtom_147 : decode cX3_readsAtom 147 = .ok (.getstatic 102, 3) := by decide +kernel
theorem dX3_readsAtom_150 : decode cX3_readsAtom 150 = .ok (.if_acmp .eq 8, 3) := by decide +kernel
theorem dX3_readsAtom_153 : decode cX3_readsAtom 153 = .ok (.aload_n 0, 1) := by decide +kernel
theorem dX3_readsAtom_154 : decode cX3_readsAtom 154 = .ok (.invokevirtual 30, 3) := by decide +kernel
theorem dX3_readsAtom_157 : decode cX3_readsAtom 157 = .ok (.ireturn, 1) := by decide +kernel
theorem dX3_readsAtom_158 : decode cX3_readsAtom 158 = .ok (.aload_n 0, 1) := by decide +kernel
theorem dX3_readsAtom_159 : decode cX3_readsAtom 159 = .ok (.invokevirtual 34, 3) := by decide +kernel
theorem dX3_readsAtom_162 : decode cX3_readsAtom 162 = .ok (.aload_n 0, 1) := by decide +kernel
theorem dX3_readsAtom_163 : decode cX3_readsAtom 163 = .ok (.invokevirtual 96, 3) := by decide +kernel
theorem dX3_readsAtom_166 : decode cX3_readsAtom 166 = .ok (.istore_n 3, 1) := by decide +kernel
theorem dX3_readsAtom_167 : decode cX3_readsAtom 167 = .ok (.aload_n 0, 1) := by decide +kernel
theorem dX3_readsAtom_168 : decode cX3_readsAtom 168 = .ok (.getfield 12, 3) := by decide +kernel
theorem dX3_readsAtom_171 : decode cX3_readsAtom 171 = .ok (.aload_n 2, 1) := by decide +kernel
theorem dX3_readsAtom_172 : decode cX3_readsAtom 172 = .ok (.getfield 92, 3) := by decide +kernel
theorem dX3_readsAtom_175 : decode cX3_readsAtom 175 = .ok (.invokevirtual 62, 3) := by decide +kernel
theorem dX3_readsAtom_178 : decode cX3_readsAtom 178 = .ok (.iload_n 3, 1) := by decide +kernel
theorem dX3_readsAtom_179 : decode cX3_readsAtom 179 = .ok (.ireturn, 1) := by decide +kernel
theorem dX3_readsNot_0 : decode cX3_readsNot 0 = .ok (.aload_n 0, 1) := by decide +kernel
theorem dX3_readsNot_1 : decode cX3_readsNot 1 = .ok (.invokevirtual 34, 3) := by decide +kernel
theorem dX3_readsNot_4 : decode cX3_readsNot 4 = .ok (.aload_n 0, 1) := by decide +kernel
theorem dX3_readsNot_5 : decode cX3_readsNot 5 = .ok (.iload_n 1, 1) := by decide +kernel
theorem dX3_readsNot_6 : decode cX3_readsNot 6 = .ok (.invokevirtual 65, 3) := by decide +kernel
theorem dX3_readsNot_9 : decode cX3_readsNot 9 = .ok (.istore_n 2, 1) := by decide +kernel
theorem dX3_readsNot_10 : decode cX3_readsNot 10 = .ok (.aload_n 0, 1) := by decide +kernel
theorem dX3_readsNot_11 : decode cX3_readsNot 11 = .ok (.getfield 12, 3) := by decide +kernel
theorem dX3_readsNot_14 : decode cX3_readsNot 14 = .ok (.sipush 1013, 3) := by decide +kernel
theorem dX3_readsNot_17 : decode cX3_readsNot 17 = .ok (.invokevirtual 62, 3) := by decide +kernel
theorem dX3_readsNot_20 : decode cX3_readsNot 20 = .ok (.iload_n 2, 1) := by decide +kernel
theorem dX3_readsNot_21 : decode cX3_readsNot 21 = .ok (.ireturn, 1) := by decide +kernel
theorem dX3_readsSum_0 : decode cX3_readsSum 0 = .ok (.iconst 0, 1) := by decide +kernel
theorem dX3_readsSum_1 : decode cX3_readsSum 1 = .ok (.istore_n 1, 1) := by decide +kernel
theorem dX3_readsSum_2 : decode cX3_readsSum 2 = .ok (.iload_n 1, 1) := by decide +kernel
theorem dX3_readsSum_3 : decode cX3_readsSum 3 = .ok (.sipush 400, 3) := by decide +kernel
theorem dX3_readsSum_6 : decode cX3_readsSum 6 = .ok (.if_icmp .ge 114, 3) := by decide +kernel
theorem dX3_readsSum_9 : decode cX3_readsSum 9 = .ok (.aload_n 0, 1) := by decide +kernel
theorem dX3_readsSum_10 : decode cX3_readsSum 10 = .ok (.getfield 105, 3) := by decide +kernel
theorem dX3_readsSum_13 : decode cX3_readsSum 13 = .ok (.iconst (-1), 1) := by decide +kernel
theorem dX3_readsSum_14 : decode cX3_readsSum 14 = .ok (.if_icmp .eq 17, 3) := by decide +kernel
theorem dX3_readsSum_17 : decode cX3_readsSum 17 = .ok (.aload_n 0, 1) := by decide +kernel
theorem dX3_readsSum_18 : decode cX3_readsSum 18 = .ok (.getfield 105, 3) := by decide +kernel
theorem dX3_readsSum_21 : decode cX3_readsSum 21 = .ok (.sipush 999, 3) := by decide +kernel
theorem dX3_readsSum_24 : decode cX3_readsSum 24 = .ok (.if_icmp .gt 7, 3) := by decide +kernel
theorem dX3_readsSum_27 : decode cX3_readsSum 27 = .ok (.iconst 1, 1) := by decide +kernel
theorem dX3_readsSum_28 : decode cX3_readsSum 28 = .ok (.goto 4, 3) := by decide +kernel
theorem dX3_readsSum_31 : decode cX3_readsSum 31 = .ok (.iconst 0, 1) := by decide +kernel
theorem dX3_readsSum_32 : decode cX3_readsSum 32 = .ok (.istore_n 2, 1) := by decide +kernel
theorem dX3_readsSum_33 : decode cX3_readsSum 33 = .ok (.iload_n 2, 1) := by decide +kernel
theorem dX3_readsSum_34 : decode cX3_readsSum 34 = .ok (.ifCond .ne 21, 3) := by decide +kernel
theorem dX3_readsSum_37 : decode cX3_readsSum 37 = .ok (.aload_n 0, 1) := by decide +kernel
theorem dX3_readsSum_38 : decode cX3_readsSum 38 = .ok (.getfield 18, 3) := by decide +kernel
theorem dX3_readsSum_41 : decode cX3_readsSum 41 = .ok (.getfield 92, 3) := by decide +kernel
theorem dX3_readsSum_44 : decode cX3_readsSum 44 = .ok (.invokestatic 108, 3) := by decide +kernel
theorem dX3_readsSum_47 : decode cX3_readsSum 47 = .ok (.ifCond .ne 8, 3) := by decide +kernel
theorem dX3_readsSum_50 : decode cX3_readsSum 50 = .ok (.aload_n 0, 1) := by decide +kernel
theorem dX3_readsSum_51 : decode cX3_readsSum 51 = .ok (.invokevirtual 30, 3) := by decide +kernel
theorem dX3_readsSum_54 : decode cX3_readsSum 54 = .ok (.ireturn, 1) := by decide +kernel
theorem dX3_readsSum_55 : decode cX3_readsSum 55 = .ok (.aload_n 0, 1) := by decide +kernel
theorem dX3_readsSum_56 : decode cX3_readsSum 56 = .ok (.getfield 12, 3) := by decide +kernel
theorem dX3_readsSum_59 : decode cX3_readsSum 59 = .ok (.iload_n 2, 1) := by decide +kernel
theorem dX3_readsSum_60 : decode cX3_readsSum 60 = .ok (.ifCond .eq 10, 3) := by decide +kernel
theorem dX3_readsSum_63 : decode cX3_readsSum 63 = .ok (.aload_n 0, 1) := by decide +kernel
theorem dX3_readsSum_64 : decode cX3_readsSum 64 = .ok (.getfield 105, 3) := by decide +kernel
theorem dX3_readsSum_67 : decode cX3_readsSum 67 = .ok (.goto 10, 3) := by decide +kernel
theorem dX3_readsSum_70 : decode cX3_readsSum 70 = .ok (.aload_n 0, 1) := by decide +kernel
theorem dX3_readsSum_71 : decode cX3_readsSum 71 = .ok (.getfield 18, 3) := by decide +kernel
theorem dX3_readsSum_74 : decode cX3_readsSum 74 = .ok (.getfield 92, 3) := by decide +kernel
theorem dX3_readsSum_77 : decode cX3_readsSum 77 = .ok (.invokevirtual 62, 3) := by decide +kernel
theorem dX3_readsSum_80 : decode cX3_readsSum 80 = .ok (.iload_n 1, 1) := by decide +kernel
theorem dX3_readsSum_81 : decode cX3_readsSum 81 = .ok (.ifCond .le 13, 3) := by decide +kernel
theorem dX3_readsSum_84 : decode cX3_readsSum 84 = .ok (.aload_n 0, 1) := by decide +kernel
theorem dX3_readsSum_85 : decode cX3_readsSum 85 = .ok (.getfield 12, 3) := by decide +kernel
theorem dX3_readsSum_88 : decode cX3_readsSum 88 = .ok (.sipush 1008, 3) := by decide +kernel
theorem dX3_readsSum_91 : decode cX3_readsSum 91 = .ok (.invokevirtual 62, 3) := by decide +kernel
theorem dX3_readsSum_94 : decode cX3_readsSum 94 = .ok (.aload_n 0, 1) := by decide +kernel
theorem dX3_readsSum_95 : decode cX3_readsSum 95 = .ok (.invokevirtual 34, 3) := by decide +kernel
theorem dX3_readsSum_98 : decode cX3_readsSum 98 = .ok (.aload_n 0, 1) := by decide +kernel
theorem dX3_readsSum_99 : decode cX3_readsSum 99 = .ok (.getfield 18, 3) := by decide +kernel
theorem dX3_readsSum_102 : decode cX3_readsSum 102 = .ok (.getstatic 111, 3) := by decide +kernel
theorem dX3_readsSum_105 : decode cX3_readsSum 105 = .ok (.if_acmp .eq 5, 3) := by decide +kernel
theorem dX3_readsSum_108 : decode cX3_readsSum 108 = .ok (.iconst 1, 1) := by decide +kernel
theorem dX3_readsSum_109 : decode cX3_readsSum 109 = .ok (.ireturn, 1) := by decide +kernel
theorem dX3_readsSum_110 : decode cX3_readsSum 110 = .ok (.aload_n 0, 1) := by decide +kernel
theorem dX3_readsSum_111 : decode cX3_readsSum 111 = .ok (.invokevirtual 34, 3) := by decide +kernel
theorem dX3_readsSum_114 : decode cX3_readsSum 114 = .ok (.iinc 1 1, 3) := by decide +kernel
theorem dX3_readsSum_117 : decode cX3_readsSum 117 = .ok (.goto (-115), 3) := by decide +kernel
theorem dX3_readsSum_120 : decode cX3_readsSum 120 = .ok (.aload_n 0, 1) := by decide +kernel
theorem dX3_readsSum_121 : decode cX3_readsSum 121 = .ok (.invokevirtual 30, 3) := by decide +kernel
theorem dX3_readsSum_124 : decode cX3_readsSum 124 = .ok (.ireturn, 1) := by decide +kernel
theorem dX4_init_0 : decode cX4_init 0 = .ok (.aload_n 0, 1) := by decide +kernel
theorem dX4_init_1 : decode cX4_init 1 = .ok (.invokespecial 3, 3) := by decide +kernel
theorem dX4_init_4 : decode cX4_init 4 = .ok (.return_, 1) := by decide +kernel
theorem dX4_valueOf_0 : decode cX4_valueOf 0 = .ok (.iload_n 1, 1) := by decide +kernel
theorem dX4_valueOf_1 : decode cX4_valueOf 1 = .ok (.tableswitch 106 1000 1007 #[47, 52, 57, 62, 67, 72, 80, 93], 47) := by decide +kernel
theorem dX4_valueOf_48 : decode cX4_valueOf 48 = .ok (.aload_n 0, 1) := by decide +kernel
theorem dX4_valueOf_49 : decode cX4_valueOf 49 = .ok (.getfield 9, 3) := by decide +kernel
theorem dX4_valueOf_52 : decode cX4_valueOf 52 = .ok (.ireturn, 1) := by decide +kernel
theorem dX4_valueOf_53 : decode cX4_valueOf 53 = .ok (.aload_n 0, 1) := by decide +kernel
theorem dX4_valueOf_54 : decode cX4_valueOf 54 = .ok (.getfield 15, 3) := by decide +kernel
theorem dX4_valueOf_57 : decode cX4_valueOf 57 = .ok (.ireturn, 1) := by decide +kernel
theorem dX4_valueOf_58 : decode cX4_valueOf 58 = .ok (.aload_n 0, 1) := by decide +kernel
theorem dX4_valueOf_59 : decode cX4_valueOf 59 = .ok (.getfield 18, 3) := by decide +kernel
theorem dX4_valueOf_62 : decode cX4_valueOf 62 = .ok (.ireturn, 1) := by decide +kernel
theorem dX4_valueOf_63 : decode cX4_valueOf 63 = .ok (.aload_n 0, 1) := by decide +kernel
theorem dX4_valueOf_64 : decode cX4_valueOf 64 = .ok (.getfield 21, 3) := by decide +kernel
theorem dX4_valueOf_67 : decode cX4_valueOf 67 = .ok (.ireturn, 1) := by decide +kernel
theorem dX4_valueOf_68 : decode cX4_valueOf 68 = .ok (.aload_n 0, 1) := by decide +kernel
theorem dX4_valueOf_69 : decode cX4_valueOf 69 = .ok (.getfield 24, 3) := by decide +kernel
theorem dX4_valueOf_72 : decode cX4_valueOf 72 = .ok (.ireturn, 1) := by decide +kernel
theorem dX4_valueOf_73 : decode cX4_valueOf 73 = .ok (.aload_n 0, 1) := by decide +kernel
theorem dX4_valueOf_74 : decode cX4_valueOf 74 = .ok (.getfield 27, 3) := by decide +kernel
theorem dX4_valueOf_77 : decode cX4_valueOf 77 = .ok (.bipush 12, 2) := by decide +kernel
theorem dX4_valueOf_79 : decode cX4_valueOf 79 = .ok (.irem, 1) := by decide +kernel
theorem dX4_valueOf_80 : decode cX4_valueOf 80 = .ok (.ireturn, 1) := by decide +kernel
theorem dX4_valueOf_81 : decode cX4_valueOf 81 = .ok (.aload_n 0, 1) := by decide +kernel
theorem dX4_valueOf_82 : decode cX4_valueOf 82 = .ok (.getfield 21, 3) := by decide +kernel
theorem dX4_valueOf_85 : decode cX4_valueOf 85 = .ok (.ifCond .le 7, 3) := by decide +kernel
theorem dX4_valueOf_88 : decode cX4_valueOf 88 = .ok (.iconst 1, 1) := by decide +kernel
theorem dX4_valueOf_89 : decode cX4_valueOf 89 = .ok (.goto 4, 3) := by decide +kernel
theorem dX4_valueOf_92 : decode cX4_valueOf 92 = .ok (.iconst 0, 1) := by decide +kernel
theorem dX4_valueOf_93 : decode cX4_valueOf 93 = .ok (.ireturn, 1) := by decide +kernel
theorem dX4_valueOf_94 : decode cX4_valueOf 94 = .ok (.aload_n 0, 1) := by decide +kernel
theorem dX4_valueOf_95 : decode cX4_valueOf 95 = .ok (.getfield 30, 3) := by decide +kernel
theorem dX4_valueOf_98 : decode cX4_valueOf 98 = .ok (.ifCond .eq 7, 3) := by decide +kernel
theorem dX4_valueOf_101 : decode cX4_valueOf 101 = .ok (.iconst 1, 1) := by decide +kernel
theorem dX4_valueOf_102 : decode cX4_valueOf 102 = .ok (.goto 4, 3) := by decide +kernel
theorem dX4_valueOf_105 : decode cX4_valueOf 105 = .ok (.iconst 0, 1) := by decide +kernel
theorem dX4_valueOf_106 : decode cX4_valueOf 106 = .ok (.ireturn, 1) := by decide +kernel
theorem dX4_valueOf_107 : decode cX4_valueOf 107 = .ok (.iload_n 1, 1) := by decide +kernel
theorem dX4_valueOf_108 : decode cX4_valueOf 108 = .ok (.ireturn, 1) := by decide +kernel
theorem dX4_happyTurned_0 : decode cX4_happyTurned 0 = .ok (.aload_n 0, 1) := by decide +kernel
theorem dX4_happyTurned_1 : decode cX4_happyTurned 1 = .ok (.getfield 9, 3) := by decide +kernel
theorem dX4_happyTurned_4 : decode cX4_happyTurned 4 = .ok (.aload_n 1, 1) := by decide +kernel
theorem dX4_happyTurned_5 : decode cX4_happyTurned 5 = .ok (.aload_n 0, 1) := by decide +kernel
theorem dX4_happyTurned_6 : decode cX4_happyTurned 6 = .ok (.invokevirtual 34, 3) := by decide +kernel
theorem dX4_happyTurned_9 : decode cX4_happyTurned 9 = .ok (.iadd, 1) := by decide +kernel
theorem dX4_happyTurned_10 : decode cX4_happyTurned 10 = .ok (.invokestatic 40, 3) := by decide +kernel
theorem dX4_happyTurned_13 : decode cX4_happyTurned 13 = .ok (.ireturn, 1) := by decide +kernel
theorem dX4_happyBehindMonth_0 : decode cX4_happyBehindMonth 0 = .ok (.aload_n 0, 1) := by decide +kernel
theorem dX4_happyBehindMonth_1 : decode cX4_happyBehindMonth 1 = .ok (.getfield 9, 3) := by decide +kernel
theorem dX4_happyBehindMonth_4 : decode cX4_happyBehindMonth 4 = .ok (.ifCond .ne 7, 3) := by decide +kernel
theorem dX4_happyBehindMonth_7 : decode cX4_happyBehindMonth 7 = .ok (.iconst 0, 1) := by decide +kernel
theorem dX4_happyBehindMonth_8 : decode cX4_happyBehindMonth 8 = .ok (.goto 8, 3) := by decide +kernel
theorem dX4_happyBehindMonth_11 : decode cX4_happyBehindMonth 11 = .ok (.aload_n 0, 1) := by decide +kernel
theorem dX4_happyBehindMonth_12 : decode cX4_happyBehindMonth 12 = .ok (.aload_n 1, 1) := by decide +kernel
theorem dX4_happyBehindMonth_13 : decode cX4_happyBehindMonth 13 = .ok (.invokevirtual 44, 3) := by decide +kernel
theorem dX4_happyBehindMonth_16 : decode cX4_happyBehindMonth 16 = .ok (.ireturn, 1) := by decide +kernel
theorem dX4_passTime_0 : decode cX4_passTime 0 = .ok (.aload_n 0, 1) := by decide +kernel
theorem dX4_passTime_1 : decode cX4_passTime 1 = .ok (.dup, 1) := by decide +kernel
theorem dX4_passTime_2 : decode cX4_passTime 2 = .ok (.getfield 15, 3) := by decide +kernel
theorem dX4_passTime_5 : decode cX4_passTime 5 = .ok (.iconst 1, 1) := by decide +kernel
theorem dX4_passTime_6 : decode cX4_passTime 6 = .ok (.iadd, 1) := by decide +kernel
theorem dX4_passTime_7 : decode cX4_passTime 7 = .ok (.putfield 15, 3) := by decide +kernel
theorem dX4_passTime_10 : decode cX4_passTime 10 = .ok (.aload_n 0, 1) := by decide +kernel
theorem dX4_passTime_11 : decode cX4_passTime 11 = .ok (.sipush 9999, 3) := by decide +kernel
theorem dX4_passTime_14 : decode cX4_passTime 14 = .ok (.aload_n 0, 1) := by decide +kernel
theorem dX4_passTime_15 : decode cX4_passTime 15 = .ok (.getfield 27, 3) := by decide +kernel
theorem dX4_passTime_18 : decode cX4_passTime 18 = .ok (.iconst 1, 1) := by decide +kernel
theorem dX4_passTime_19 : decode cX4_passTime 19 = .ok (.iadd, 1) := by decide +kernel
theorem dX4_passTime_20 : decode cX4_passTime 20 = .ok (.invokestatic 48, 3) := by decide +kernel
theorem dX4_passTime_23 : decode cX4_passTime 23 = .ok (.putfield 27, 3) := by decide +kernel
theorem dX4_passTime_26 : decode cX4_passTime 26 = .ok (.return_, 1) := by decide +kernel
theorem dX5_init_0 : decode cX5_init 0 = .ok (.aload_n 0, 1) := by decide +kernel
theorem dX5_init_1 : decode cX5_init 1 = .ok (.invokespecial 3, 3) := by decide +kernel
theorem dX5_init_4 : decode cX5_init 4 = .ok (.aload_n 0, 1) := by decide +kernel
theorem dX5_init_5 : decode cX5_init 5 = .ok (.new 9, 3) := by decide +kernel
theorem dX5_init_8 : decode cX5_init 8 = .ok (.dup, 1) := by decide +kernel
theorem dX5_init_9 : decode cX5_init 9 = .ok (.bipush 8, 2) := by decide +kernel
theorem dX5_init_11 : decode cX5_init 11 = .ok (.invokespecial 11, 3) := by decide +kernel
theorem dX5_init_14 : decode cX5_init 14 = .ok (.putfield 14, 3) := by decide +kernel
theorem dX5_init_17 : decode cX5_init 17 = .ok (.aload_n 0, 1) := by decide +kernel
theorem dX5_init_18 : decode cX5_init 18 = .ok (.new 9, 3) := by decide +kernel
theorem dX5_init_21 : decode cX5_init 21 = .ok (.dup, 1) := by decide +kernel
theorem dX5_init_22 : decode cX5_init 22 = .ok (.bipush 8, 2) := by decide +kernel
theorem dX5_init_24 : decode cX5_init 24 = .ok (.invokespecial 11, 3) := by decide +kernel
theorem dX5_init_27 : decode cX5_init 27 = .ok (.putfield 20, 3) := by decide +kernel
theorem dX5_init_30 : decode cX5_init 30 = .ok (.return_, 1) := by decide +kernel
theorem dX5_bestFor_0 : decode cX5_bestFor 0 = .ok (.iconst (-1), 1) := by decide +kernel
theorem dX5_bestFor_1 : decode cX5_bestFor 1 = .ok (.istore_n 3, 1) := by decide +kernel
theorem dX5_bestFor_2 : decode cX5_bestFor 2 = .ok (.aload_n 1, 1) := by decide +kernel
theorem dX5_bestFor_3 : decode cX5_bestFor 3 = .ok (.iload_n 2, 1) := by decide +kernel
theorem dX5_bestFor_4 : decode cX5_bestFor 4 = .ok (.invokevirtual 23, 3) := by decide +kernel
theorem dX5_bestFor_7 : decode cX5_bestFor 7 = .ok (.ifCond .eq 5, 3) := by decide +kernel
theorem dX5_bestFor_10 : decode cX5_bestFor 10 = .ok (.iload_n 3, 1) := by decide +kernel
theorem dX5_bestFor_11 : decode cX5_bestFor 11 = .ok (.ireturn, 1) := by decide +kernel
theorem dX5_bestFor_12 : decode cX5_bestFor 12 = .ok (.iconst 0, 1) := by decide +kernel
theorem dX5_bestFor_13 : decode cX5_bestFor 13 = .ok (.istore 4, 2) := by decide +kernel
theorem dX5_bestFor_15 : decode cX5_bestFor 15 = .ok (.iload 4, 2) := by decide +kernel
theorem dX5_bestFor_17 : decode cX5_bestFor 17 = .ok (.aload_n 1, 1) := by decide +kernel
theorem dX5_bestFor_18 : decode cX5_bestFor 18 = .ok (.getfield 29, 3) := by decide +kernel
theorem dX5_bestFor_21 : decode cX5_bestFor 21 = .ok (.if_icmp .ge 43, 3) := by decide +kernel
theorem dX5_bestFor_24 : decode cX5_bestFor 24 = .ok (.iload 4, 2) := by decide +kernel
theorem dX5_bestFor_26 : decode cX5_bestFor 26 = .ok (.iload_n 2, 1) := by decide +kernel
theorem dX5_bestFor_27 : decode cX5_bestFor 27 = .ok (.if_icmp .eq 31, 3) := by decide +kernel
theorem dX5_bestFor_30 : decode cX5_bestFor 30 = .ok (.aload_n 1, 1) := by decide +kernel
theorem dX5_bestFor_31 : decode cX5_bestFor 31 = .ok (.iload 4, 2) := by decide +kernel
theorem dX5_bestFor_33 : decode cX5_bestFor 33 = .ok (.invokevirtual 23, 3) := by decide +kernel
theorem dX5_bestFor_36 : decode cX5_bestFor 36 = .ok (.ifCond .ne 22, 3) := by decide +kernel
theorem dX5_bestFor_39 : decode cX5_bestFor 39 = .ok (.iload_n 3, 1) := by decide +kernel
theorem dX5_bestFor_40 : decode cX5_bestFor 40 = .ok (.iconst (-1), 1) := by decide +kernel
theorem dX5_bestFor_41 : decode cX5_bestFor 41 = .ok (.if_icmp .eq 14, 3) := by decide +kernel
theorem dX5_bestFor_44 : decode cX5_bestFor 44 = .ok (.aload_n 1, 1) := by decide +kernel
theorem dX5_bestFor_45 : decode cX5_bestFor 45 = .ok (.iload_n 2, 1) := by decide +kernel
theorem dX5_bestFor_46 : decode cX5_bestFor 46 = .ok (.iload 4, 2) := by decide +kernel
theorem dX5_bestFor_48 : decode cX5_bestFor 48 = .ok (.iload_n 3, 1) := by decide +kernel
theorem dX5_bestFor_49 : decode cX5_bestFor 49 = .ok (.invokestatic 33, 3) := by decide +kernel
theorem dX5_bestFor_52 : decode cX5_bestFor 52 = .ok (.ifCond .eq 6, 3) := by decide +kernel
theorem dX5_bestFor_55 : decode cX5_bestFor 55 = .ok (.iload 4, 2) := by decide +kernel
theorem dX5_bestFor_57 : decode cX5_bestFor 57 = .ok (.istore_n 3, 1) := by decide +kernel
theorem dX5_bestFor_58 : decode cX5_bestFor 58 = .ok (.iinc 4 1, 3) := by decide +kernel
theorem dX5_bestFor_61 : decode cX5_bestFor 61 = .ok (.goto (-46), 3) := by decide +kernel
theorem dX5_bestFor_64 : decode cX5_bestFor 64 = .ok (.iload_n 3, 1) := by decide +kernel
theorem dX5_bestFor_65 : decode cX5_bestFor 65 = .ok (.ireturn, 1) := by decide +kernel
theorem dX5_isBetter_0 : decode cX5_isBetter 0 = .ok (.aload_n 0, 1) := by decide +kernel
theorem dX5_isBetter_1 : decode cX5_isBetter 1 = .ok (.iload_n 1, 1) := by decide +kernel
theorem dX5_isBetter_2 : decode cX5_isBetter 2 = .ok (.iload_n 2, 1) := by decide +kernel
theorem dX5_isBetter_3 : decode cX5_isBetter 3 = .ok (.invokevirtual 37, 3) := by decide +kernel
theorem dX5_isBetter_6 : decode cX5_isBetter 6 = .ok (.invokestatic 41, 3) := by decide +kernel
theorem dX5_isBetter_9 : decode cX5_isBetter 9 = .ok (.aload_n 0, 1) := by decide +kernel
theorem dX5_isBetter_10 : decode cX5_isBetter 10 = .ok (.iload_n 1, 1) := by decide +kernel
theorem dX5_isBetter_11 : decode cX5_isBetter 11 = .ok (.iload_n 3, 1) := by decide +kernel
theorem dX5_isBetter_12 : decode cX5_isBetter 12 = .ok (.invokevirtual 37, 3) := by decide +kernel
theorem dX5_isBetter_15 : decode cX5_isBetter 15 = .ok (.invokestatic 41, 3) := by decide +kernel
theorem dX5_isBetter_18 : decode cX5_isBetter 18 = .ok (.isub, 1) := by decide +kernel
theorem dX5_isBetter_19 : decode cX5_isBetter 19 = .ok (.istore 4, 2) := by decide +kernel
theorem dX5_isBetter_21 : decode cX5_isBetter 21 = .ok (.iload 4, 2) := by decide +kernel
theorem dX5_isBetter_23 : decode cX5_isBetter 23 = .ok (.ifCond .gt 23, 3) := by decide +kernel
theorem dX5_isBetter_26 : decode cX5_isBetter 26 = .ok (.iload 4, 2) := by decide +kernel
theorem dX5_isBetter_28 : decode cX5_isBetter 28 = .ok (.ifCond .ne 22, 3) := by decide +kernel
theorem dX5_isBetter_31 : decode cX5_isBetter 31 = .ok (.aload_n 0, 1) := by decide +kernel
theorem dX5_isBetter_32 : decode cX5_isBetter 32 = .ok (.iload_n 1, 1) := by decide +kernel
theorem dX5_isBetter_33 : decode cX5_isBetter 33 = .ok (.iload_n 2, 1) := by decide +kernel
theorem dX5_isBetter_34 : decode cX5_isBetter 34 = .ok (.invokevirtual 47, 3) := by decide +kernel
theorem dX5_isBetter_37 : decode cX5_isBetter 37 = .ok (.aload_n 0, 1) := by decide +kernel
theorem dX5_isBetter_38 : decode cX5_isBetter 38 = .ok (.iload_n 1, 1) := by decide +kernel
theorem dX5_isBetter_39 : decode cX5_isBetter 39 = .ok (.iload_n 3, 1) := by decide +kernel
theorem dX5_isBetter_40 : decode cX5_isBetter 40 = .ok (.invokevirtual 47, 3) := by decide +kernel
theorem dX5_isBetter_43 : decode cX5_isBetter 43 = .ok (.if_icmp .le 7, 3) := by decide +kernel
theorem dX5_isBetter_46 : decode cX5_isBetter 46 = .ok (.iconst 1, 1) := by decide +kernel
theorem dX5_isBetter_47 : decode cX5_isBetter 47 = .ok (.goto 4, 3) := by decide +kernel
theorem dX5_isBetter_50 : decode cX5_isBetter 50 = .ok (.iconst 0, 1) := by decide +kernel
theorem dX5_isBetter_51 : decode cX5_isBetter 51 = .ok (.ireturn, 1) := by decide +kernel
theorem dX5_preferred_0 : decode cX5_preferred 0 = .ok (.aload_n 1, 1) := by decide +kernel
theorem dX5_preferred_1 : decode cX5_preferred 1 = .ok (.iload_n 2, 1) := by decide +kernel
theorem dX5_preferred_2 : decode cX5_preferred 2 = .ok (.invokevirtual 50, 3) := by decide +kernel
theorem dX5_preferred_5 : decode cX5_preferred 5 = .ok (.istore_n 3, 1) := by decide +kernel
theorem dX5_preferred_6 : decode cX5_preferred 6 = .ok (.iload_n 3, 1) := by decide +kernel
theorem dX5_preferred_7 : decode cX5_preferred 7 = .ok (.iconst (-1), 1) := by decide +kernel
theorem dX5_preferred_8 : decode cX5_preferred 8 = .ok (.if_icmp .ne 7, 3) := by decide +kernel
theorem dX5_preferred_11 : decode cX5_preferred 11 = .ok (.iconst 0, 1) := by decide +kernel
theorem dX5_preferred_12 : decode cX5_preferred 12 = .ok (.goto 9, 3) := by decide +kernel
theorem dX5_preferred_15 : decode cX5_preferred 15 = .ok (.aload_n 1, 1) := by decide +kernel
theorem dX5_preferred_16 : decode cX5_preferred 16 = .ok (.iload_n 2, 1) := by decide +kernel
theorem dX5_preferred_17 : decode cX5_preferred 17 = .ok (.iload_n 3, 1) := by decide +kernel
theorem dX5_preferred_18 : decode cX5_preferred 18 = .ok (.invokevirtual 47, 3) := by decide +kernel
theorem dX5_preferred_21 : decode cX5_preferred 21 = .ok (.istore 4, 2) := by decide +kernel
theorem dX5_preferred_23 : decode cX5_preferred 23 = .ok (.iconst 0, 1) := by decide +kernel
theorem dX5_preferred_24 : decode cX5_preferred 24 = .ok (.istore 5, 2) := by decide +kernel
theorem dX5_preferred_26 : decode cX5_preferred 26 = .ok (.iconst 0, 1) := by decide +kernel
theorem dX5_preferred_27 : decode cX5_preferred 27 = .ok (.istore 6, 2) := by decide +kernel
theorem dX5_preferred_29 : decode cX5_preferred 29 = .ok (.iload 6, 2) := by decide +kernel
theorem dX5_preferred_31 : decode cX5_preferred 31 = .ok (.aload_n 1, 1) := by decide +kernel
theorem dX5_preferred_32 : decode cX5_preferred 32 = .ok (.getfield 29, 3) := by decide +kernel
theorem dX5_preferred_35 : decode cX5_preferred 35 = .ok (.if_icmp .ge 36, 3) := by decide +kernel
theorem dX5_preferred_38 : decode cX5_preferred 38 = .ok (.iload 6, 2) := by decide +kernel
theorem dX5_preferred_40 : decode cX5_preferred 40 = .ok (.iload_n 2, 1) := by decide +kernel
theorem dX5_preferred_41 : decode cX5_preferred 41 = .ok (.if_icmp .eq 24, 3) := by decide +kernel
theorem dX5_preferred_44 : decode cX5_preferred 44 = .ok (.aload_n 1, 1) := by decide +kernel
theorem dX5_preferred_45 : decode cX5_preferred 45 = .ok (.iload_n 2, 1) := by decide +kernel
theorem dX5_preferred_46 : decode cX5_preferred 46 = .ok (.iload 6, 2) := by decide +kernel
theorem dX5_preferred_48 : decode cX5_preferred 48 = .ok (.invokevirtual 47, 3) := by decide +kernel
theorem dX5_preferred_51 : decode cX5_preferred 51 = .ok (.iload 4, 2) := by decide +kernel
theorem dX5_preferred_53 : decode cX5_preferred 53 = .ok (.if_icmp .le 12, 3) := by decide +kernel
theorem dX5_preferred_56 : decode cX5_preferred 56 = .ok (.iload 5, 2) := by decide +kernel
theorem dX5_preferred_58 : decode cX5_preferred 58 = .ok (.iconst 1, 1) := by decide +kernel
theorem dX5_preferred_59 : decode cX5_preferred 59 = .ok (.iload 6, 2) := by decide +kernel
theorem dX5_preferred_61 : decode cX5_preferred 61 = .ok (.ishl, 1) := by decide +kernel
theorem dX5_preferred_62 : decode cX5_preferred 62 = .ok (.ior, 1) := by decide +kernel
theorem dX5_preferred_63 : decode cX5_preferred 63 = .ok (.istore 5, 2) := by decide +kernel
theorem dX5_preferred_65 : decode cX5_preferred 65 = .ok (.iinc 6 1, 3) := by decide +kernel
theorem dX5_preferred_68 : decode cX5_preferred 68 = .ok (.goto (-39), 3) := by decide +kernel
theorem dX5_preferred_71 : decode cX5_preferred 71 = .ok (.iload 5, 2) := by decide +kernel
theorem dX5_preferred_73 : decode cX5_preferred 73 = .ok (.ireturn, 1) := by decide +kernel
theorem dX5_areLovers_0 : decode cX5_areLovers 0 = .ok (.aload_n 1, 1) := by decide +kernel
theorem dX5_areLovers_1 : decode cX5_areLovers 1 = .ok (.iload_n 2, 1) := by decide +kernel
theorem dX5_areLovers_2 : decode cX5_areLovers 2 = .ok (.invokevirtual 53, 3) := by decide +kernel
theorem dX5_areLovers_5 : decode cX5_areLovers 5 = .ok (.ifCond .ne 41, 3) := by decide +kernel
theorem dX5_areLovers_8 : decode cX5_areLovers 8 = .ok (.aload_n 1, 1) := by decide +kernel
theorem dX5_areLovers_9 : decode cX5_areLovers 9 = .ok (.iload_n 3, 1) := by decide +kernel
theorem dX5_areLovers_10 : decode cX5_areLovers 10 = .ok (.invokevirtual 53, 3) := by decide +kernel
theorem dX5_areLovers_13 : decode cX5_areLovers 13 = .ok (.ifCond .ne 33, 3) := by decide +kernel
theorem dX5_areLovers_16 : decode cX5_areLovers 16 = .ok (.aload_n 0, 1) := by decide +kernel
theorem dX5_areLovers_17 : decode cX5_areLovers 17 = .ok (.aload_n 1, 1) := by decide +kernel
theorem dX5_areLovers_18 : decode cX5_areLovers 18 = .ok (.iload_n 2, 1) := by decide +kernel
theorem dX5_areLovers_19 : decode cX5_areLovers 19 = .ok (.invokevirtual 56, 3) := by decide +kernel
theorem dX5_areLovers_22 : decode cX5_areLovers 22 = .ok (.iload_n 3, 1) := by decide +kernel
theorem dX5_areLovers_23 : decode cX5_areLovers 23 = .ok (.invokestatic 60, 3) := by decide +kernel
theorem dX5_areLovers_26 : decode cX5_areLovers 26 = .ok (.ifCond .eq 20, 3) := by decide +kernel
theorem dX5_areLovers_29 : decode cX5_areLovers 29 = .ok (.aload_n 0, 1) := by decide +kernel
theorem dX5_areLovers_30 : decode cX5_areLovers 30 = .ok (.aload_n 1, 1) := by decide +kernel
theorem dX5_areLovers_31 : decode cX5_areLovers 31 = .ok (.iload_n 3, 1) := by decide +kernel
theorem dX5_areLovers_32 : decode cX5_areLovers 32 = .ok (.invokevirtual 56, 3) := by decide +kernel
theorem dX5_areLovers_35 : decode cX5_areLovers 35 = .ok (.iload_n 2, 1) := by decide +kernel
theorem dX5_areLovers_36 : decode cX5_areLovers 36 = .ok (.invokestatic 60, 3) := by decide +kernel
theorem dX5_areLovers_39 : decode cX5_areLovers 39 = .ok (.ifCond .eq 7, 3) := by decide +kernel
theorem dX5_areLovers_42 : decode cX5_areLovers 42 = .ok (.iconst 1, 1) := by decide +kernel
theorem dX5_areLovers_43 : decode cX5_areLovers 43 = .ok (.goto 4, 3) := by decide +kernel
theorem dX5_areLovers_46 : decode cX5_areLovers 46 = .ok (.iconst 0, 1) := by decide +kernel
theorem dX5_areLovers_47 : decode cX5_areLovers 47 = .ok (.ireturn, 1) := by decide +kernel
theorem dX5_loverPairs_0 : decode cX5_loverPairs 0 = .ok (.iconst 0, 1) := by decide +kernel
theorem dX5_loverPairs_1 : decode cX5_loverPairs 1 = .ok (.istore_n 2, 1) := by decide +kernel
theorem dX5_loverPairs_2 : decode cX5_loverPairs 2 = .ok (.iconst 0, 1) := by decide +kernel
theorem dX5_loverPairs_3 : decode cX5_loverPairs 3 = .ok (.istore_n 3, 1) := by decide +kernel
theorem dX5_loverPairs_4 : decode cX5_loverPairs 4 = .ok (.iload_n 3, 1) := by decide +kernel
theorem dX5_loverPairs_5 : decode cX5_loverPairs 5 = .ok (.aload_n 1, 1) := by decide +kernel
theorem dX5_loverPairs_6 : decode cX5_loverPairs 6 = .ok (.getfield 29, 3) := by decide +kernel
theorem dX5_loverPairs_9 : decode cX5_loverPairs 9 = .ok (.if_icmp .ge 43, 3) := by decide +kernel
theorem dX5_loverPairs_12 : decode cX5_loverPairs 12 = .ok (.iload_n 3, 1) := by decide +kernel
theorem dX5_loverPairs_13 : decode cX5_loverPairs 13 = .ok (.iconst 1, 1) := by decide +kernel
theorem dX5_loverPairs_14 : decode cX5_loverPairs 14 = .ok (.iadd, 1) := by decide +kernel
theorem dX5_loverPairs_15 : decode cX5_loverPairs 15 = .ok (.istore 4, 2) := by decide +kernel
theorem dX5_loverPairs_17 : decode cX5_loverPairs 17 = .ok (.iload 4, 2) := by decide +kernel
theorem dX5_loverPairs_19 : decode cX5_loverPairs 19 = .ok (.aload_n 1, 1) := by decide +kernel
theorem dX5_loverPairs_20 : decode cX5_loverPairs 20 = .ok (.getfield 29, 3) := by decide +kernel
theorem dX5_loverPairs_23 : decode cX5_loverPairs 23 = .ok (.if_icmp .ge 23, 3) := by decide +kernel
theorem dX5_loverPairs_26 : decode cX5_loverPairs 26 = .ok (.aload_n 0, 1) := by decide +kernel
theorem dX5_loverPairs_27 : decode cX5_loverPairs 27 = .ok (.aload_n 1, 1) := by decide +kernel
theorem dX5_loverPairs_28 : decode cX5_loverPairs 28 = .ok (.iload_n 3, 1) := by decide +kernel
theorem dX5_loverPairs_29 : decode cX5_loverPairs 29 = .ok (.iload 4, 2) := by decide +kernel
theorem dX5_loverPairs_31 : decode cX5_loverPairs 31 = .ok (.invokevirtual 64, 3) := by decide +kernel
theorem dX5_loverPairs_34 : decode cX5_loverPairs 34 = .ok (.ifCond .eq 6, 3) := by decide +kernel
theorem dX5_loverPairs_37 : decode cX5_loverPairs 37 = .ok (.iinc 2 1, 3) := by decide +kernel
theorem dX5_loverPairs_40 : decode cX5_loverPairs 40 = .ok (.iinc 4 1, 3) := by decide +kernel
theorem dX5_loverPairs_43 : decode cX5_loverPairs 43 = .ok (.goto (-26), 3) := by decide +kernel
theorem dX5_loverPairs_46 : decode cX5_loverPairs 46 = .ok (.iinc 3 1, 3) := by decide +kernel
theorem dX5_loverPairs_49 : decode cX5_loverPairs 49 = .ok (.goto (-45), 3) := by decide +kernel
theorem dX5_loverPairs_52 : decode cX5_loverPairs 52 = .ok (.iload_n 2, 1) := by decide +kernel
theorem dX5_loverPairs_53 : decode cX5_loverPairs 53 = .ok (.ireturn, 1) := by decide +kernel
theorem dX5_firstLovers_0 : decode cX5_firstLovers 0 = .ok (.iconst 0, 1) := by decide +kernel
theorem dX5_firstLovers_1 : decode cX5_firstLovers 1 = .ok (.istore_n 2, 1) := by decide +kernel
theorem dX5_firstLovers_2 : decode cX5_firstLovers 2 = .ok (.iload_n 2, 1) := by decide +kernel
theorem dX5_firstLovers_3 : decode cX5_firstLovers 3 = .ok (.aload_n 1, 1) := by decide +kernel
theorem dX5_firstLovers_4 : decode cX5_firstLovers 4 = .ok (.getfield 29, 3) := by decide +kernel
theorem dX5_firstLovers_7 : decode cX5_firstLovers 7 = .ok (.if_icmp .ge 44, 3) := by decide +kernel
theorem dX5_firstLovers_10 : decode cX5_firstLovers 10 = .ok (.iload_n 2, 1) := by decide +kernel
theorem dX5_firstLovers_11 : decode cX5_firstLovers 11 = .ok (.iconst 1, 1) := by decide +kernel
theorem dX5_firstLovers_12 : decode cX5_firstLovers 12 = .ok (.iadd, 1) := by decide +kernel
theorem dX5_firstLovers_13 : decode cX5_firstLovers 13 = .ok (.istore_n 3, 1) := by decide +kernel
theorem dX5_firstLovers_14 : decode cX5_firstLovers 14 = .ok (.iload_n 3, 1) := by decide +kernel
theorem dX5_firstLovers_15 : decode cX5_firstLovers 15 = .ok (.aload_n 1, 1) := by decide +kernel
theorem dX5_firstLovers_16 : decode cX5_firstLovers 16 = .ok (.getfield 29, 3) := by decide +kernel
theorem dX5_firstLovers_19 : decode cX5_firstLovers 19 = .ok (.if_icmp .ge 26, 3) := by decide +kernel
theorem dX5_firstLovers_22 : decode cX5_firstLovers 22 = .ok (.aload_n 0, 1) := by decide +kernel
theorem dX5_firstLovers_23 : decode cX5_firstLovers 23 = .ok (.aload_n 1, 1) := by decide +kernel
theorem dX5_firstLovers_24 : decode cX5_firstLovers 24 = .ok (.iload_n 2, 1) := by decide +kernel
theorem dX5_firstLovers_25 : decode cX5_firstLovers 25 = .ok (.iload_n 3, 1) := by decide +kernel
theorem dX5_firstLovers_26 : decode cX5_firstLovers 26 = .ok (.invokevirtual 64, 3) := by decide +kernel
theorem dX5_firstLovers_29 : decode cX5_firstLovers 29 = .ok (.ifCond .eq 10, 3) := by decide +kernel
theorem dX5_firstLovers_32 : decode cX5_firstLovers 32 = .ok (.bipush 10, 2) := by decide +kernel
theorem dX5_firstLovers_34 : decode cX5_firstLovers 34 = .ok (.iload_n 2, 1) := by decide +kernel
theorem dX5_firstLovers_35 : decode cX5_firstLovers 35 = .ok (.imul, 1) := by decide +kernel
theorem dX5_firstLovers_36 : decode cX5_firstLovers 36 = .ok (.iload_n 3, 1) := by decide +kernel
theorem dX5_firstLovers_37 : decode cX5_firstLovers 37 = .ok (.iadd, 1) := by decide +kernel
theorem dX5_firstLovers_38 : decode cX5_firstLovers 38 = .ok (.ireturn, 1) := by decide +kernel
theorem dX5_firstLovers_39 : decode cX5_firstLovers 39 = .ok (.iinc 3 1, 3) := by decide +kernel
theorem dX5_firstLovers_42 : decode cX5_firstLovers 42 = .ok (.goto (-28), 3) := by decide +kernel
theorem dX5_firstLovers_45 : decode cX5_firstLovers 45 = .ok (.iinc 2 1, 3) := by decide +kernel
theorem dX5_firstLovers_48 : decode cX5_firstLovers 48 = .ok (.goto (-46), 3) := by decide +kernel
theorem dX5_firstLovers_51 : decode cX5_firstLovers 51 = .ok (.iconst (-1), 1) := by decide +kernel
theorem dX5_firstLovers_52 : decode cX5_firstLovers 52 = .ok (.ireturn, 1) := by decide +kernel
theorem dX5_steadyWays_0 : decode cX5_steadyWays 0 = .ok (.aload_n 0, 1) := by decide +kernel
theorem dX5_steadyWays_1 : decode cX5_steadyWays 1 = .ok (.iconst 0, 1) := by decide +kernel
theorem dX5_steadyWays_2 : decode cX5_steadyWays 2 = .ok (.putfield 68, 3) := by decide +kernel
theorem dX5_steadyWays_5 : decode cX5_steadyWays 5 = .ok (.aload_n 0, 1) := by decide +kernel
theorem dX5_steadyWays_6 : decode cX5_steadyWays 6 = .ok (.getfield 14, 3) := by decide +kernel
theorem dX5_steadyWays_9 : decode cX5_steadyWays 9 = .ok (.iconst (-1), 1) := by decide +kernel
theorem dX5_steadyWays_10 : decode cX5_steadyWays 10 = .ok (.invokevirtual 71, 3) := by decide +kernel
theorem dX5_steadyWays_13 : decode cX5_steadyWays 13 = .ok (.aload_n 0, 1) := by decide +kernel
theorem dX5_steadyWays_14 : decode cX5_steadyWays 14 = .ok (.aload_n 1, 1) := by decide +kernel
theorem dX5_steadyWays_15 : decode cX5_steadyWays 15 = .ok (.aload_n 1, 1) := by decide +kernel
theorem dX5_steadyWays_16 : decode cX5_steadyWays 16 = .ok (.getfield 29, 3) := by decide +kernel
theorem dX5_steadyWays_19 : decode cX5_steadyWays 19 = .ok (.iconst 2, 1) := by decide +kernel
theorem dX5_steadyWays_20 : decode cX5_steadyWays 20 = .ok (.irem, 1) := by decide +kernel
theorem dX5_steadyWays_21 : decode cX5_steadyWays 21 = .ok (.iconst 1, 1) := by decide +kernel
theorem dX5_steadyWays_22 : decode cX5_steadyWays 22 = .ok (.if_icmp .ne 7, 3) := by decide +kernel
theorem dX5_steadyWays_25 : decode cX5_steadyWays 25 = .ok (.iconst 1, 1) := by decide +kernel
theorem dX5_steadyWays_26 : decode cX5_steadyWays 26 = .ok (.goto 4, 3) := by decide +kernel
theorem dX5_steadyWays_29 : decode cX5_steadyWays 29 = .ok (.iconst 0, 1) := by decide +kernel
theorem dX5_steadyWays_30 : decode cX5_steadyWays 30 = .ok (.iconst 0, 1) := by decide +kernel
theorem dX5_steadyWays_31 : decode cX5_steadyWays 31 = .ok (.invokevirtual 74, 3) := by decide +kernel
theorem dX5_steadyWays_34 : decode cX5_steadyWays 34 = .ok (.aload_n 0, 1) := by decide +kernel
theorem dX5_steadyWays_35 : decode cX5_steadyWays 35 = .ok (.getfield 68, 3) := by decide +kernel
theorem dX5_steadyWays_38 : decode cX5_steadyWays 38 = .ok (.ireturn, 1) := by decide +kernel
theorem dX5_steadyPartner_0 : decode cX5_steadyPartner 0 = .ok (.aload_n 0, 1) := by decide +kernel
theorem dX5_steadyPartner_1 : decode cX5_steadyPartner 1 = .ok (.aload_n 1, 1) := by decide +kernel
theorem dX5_steadyPartner_2 : decode cX5_steadyPartner 2 = .ok (.invokevirtual 78, 3) := by decide +kernel
theorem dX5_steadyPartner_5 : decode cX5_steadyPartner 5 = .ok (.ifCond .ne 7, 3) := by decide +kernel
theorem dX5_steadyPartner_8 : decode cX5_steadyPartner 8 = .ok (.iconst (-1), 1) := by decide +kernel
theorem dX5_steadyPartner_9 : decode cX5_steadyPartner 9 = .ok (.goto 11, 3) := by decide +kernel
theorem dX5_steadyPartner_12 : decode cX5_steadyPartner 12 = .ok (.aload_n 0, 1) := by decide +kernel
theorem dX5_steadyPartner_13 : decode cX5_steadyPartner 13 = .ok (.getfield 20, 3) := by decide +kernel
theorem dX5_steadyPartner_16 : decode cX5_steadyPartner 16 = .ok (.iload_n 2, 1) := by decide +kernel
theorem dX5_steadyPartner_17 : decode cX5_steadyPartner 17 = .ok (.invokevirtual 82, 3) := by decide +kernel
theorem dX5_steadyPartner_20 : decode cX5_steadyPartner 20 = .ok (.ireturn, 1) := by decide +kernel
theorem dX5_pairUp_0 : decode cX5_pairUp 0 = .ok (.aload_n 0, 1) := by decide +kernel
theorem dX5_pairUp_1 : decode cX5_pairUp 1 = .ok (.aload_n 1, 1) := by decide +kernel
theorem dX5_pairUp_2 : decode cX5_pairUp 2 = .ok (.getfield 29, 3) := by decide +kernel
theorem dX5_pairUp_5 : decode cX5_pairUp 5 = .ok (.invokevirtual 85, 3) := by decide +kernel
theorem dX5_pairUp_8 : decode cX5_pairUp 8 = .ok (.istore 4, 2) := by decide +kernel
theorem dX5_pairUp_10 : decode cX5_pairUp 10 = .ok (.iload 4, 2) := by decide +kernel
theorem dX5_pairUp_12 : decode cX5_pairUp 12 = .ok (.iconst (-1), 1) := by decide +kernel
theorem dX5_pairUp_13 : decode cX5_pairUp 13 = .ok (.if_icmp .ne 9, 3) := by decide +kernel
theorem dX5_pairUp_16 : decode cX5_pairUp 16 = .ok (.aload_n 0, 1) := by decide +kernel
theorem dX5_pairUp_17 : decode cX5_pairUp 17 = .ok (.aload_n 1, 1) := by decide +kernel
theorem dX5_pairUp_18 : decode cX5_pairUp 18 = .ok (.invokevirtual 88, 3) := by decide +kernel
theorem dX5_pairUp_21 : decode cX5_pairUp 21 = .ok (.return_, 1) := by decide +kernel
theorem dX5_pairUp_22 : decode cX5_pairUp 22 = .ok (.iload_n 3, 1) := by decide +kernel
theorem dX5_pairUp_23 : decode cX5_pairUp 23 = .ok (.bipush 8, 2) := by decide +kernel
theorem dX5_pairUp_25 : decode cX5_pairUp 25 = .ok (.if_icmp .lt 4, 3) := by decide +kernel
theorem dX5_pairUp_28 : decode cX5_pairUp 28 = .ok (.return_, 1) := by decide +kernel
theorem dX5_pairUp_29 : decode cX5_pairUp 29 = .ok (.iload_n 2, 1) := by decide +kernel
theorem dX5_pairUp_30 : decode cX5_pairUp 30 = .ok (.ifCond .eq 14, 3) := by decide +kernel
theorem dX5_pairUp_33 : decode cX5_pairUp 33 = .ok (.aload_n 0, 1) := by decide +kernel
theorem dX5_pairUp_34 : decode cX5_pairUp 34 = .ok (.aload_n 1, 1) := by decide +kernel
theorem dX5_pairUp_35 : decode cX5_pairUp 35 = .ok (.iload 4, 2) := by decide +kernel
theorem dX5_pairUp_37 : decode cX5_pairUp 37 = .ok (.iload 4, 2) := by decide +kernel
theorem dX5_pairUp_39 : decode cX5_pairUp 39 = .ok (.iconst 0, 1) := by decide +kernel
theorem dX5_pairUp_40 : decode cX5_pairUp 40 = .ok (.iload_n 3, 1) := by decide +kernel
theorem dX5_pairUp_41 : decode cX5_pairUp 41 = .ok (.invokevirtual 92, 3) := by decide +kernel
theorem dX5_pairUp_44 : decode cX5_pairUp 44 = .ok (.iload 4, 2) := by decide +kernel
theorem dX5_pairUp_46 : decode cX5_pairUp 46 = .ok (.iconst 1, 1) := by decide +kernel
theorem dX5_pairUp_47 : decode cX5_pairUp 47 = .ok (.iadd, 1) := by decide +kernel
theorem dX5_pairUp_48 : decode cX5_pairUp 48 = .ok (.istore 5, 2) := by decide +kernel
theorem dX5_pairUp_50 : decode cX5_pairUp 50 = .ok (.iload 5, 2) := by decide +kernel
theorem dX5_pairUp_52 : decode cX5_pairUp 52 = .ok (.aload_n 1, 1) := by decide +kernel
theorem dX5_pairUp_53 : decode cX5_pairUp 53 = .ok (.getfield 29, 3) := by decide +kernel
theorem dX5_pairUp_56 : decode cX5_pairUp 56 = .ok (.if_icmp .ge 33, 3) := by decide +kernel
theorem dX5_pairUp_59 : decode cX5_pairUp 59 = .ok (.aload_n 0, 1) := by decide +kernel
theorem dX5_pairUp_60 : decode cX5_pairUp 60 = .ok (.getfield 14, 3) := by decide +kernel
theorem dX5_pairUp_63 : decode cX5_pairUp 63 = .ok (.iload 5, 2) := by decide +kernel
theorem dX5_pairUp_65 : decode cX5_pairUp 65 = .ok (.invokevirtual 82, 3) := by decide +kernel
theorem dX5_pairUp_68 : decode cX5_pairUp 68 = .ok (.iconst (-1), 1) := by decide +kernel
theorem dX5_pairUp_69 : decode cX5_pairUp 69 = .ok (.if_icmp .ne 14, 3) := by decide +kernel
theorem dX5_pairUp_72 : decode cX5_pairUp 72 = .ok (.aload_n 0, 1) := by decide +kernel
theorem dX5_pairUp_73 : decode cX5_pairUp 73 = .ok (.aload_n 1, 1) := by decide +kernel
theorem dX5_pairUp_74 : decode cX5_pairUp 74 = .ok (.iload 4, 2) := by decide +kernel
theorem dX5_pairUp_76 : decode cX5_pairUp 76 = .ok (.iload 5, 2) := by decide +kernel
theorem dX5_pairUp_78 : decode cX5_pairUp 78 = .ok (.iload_n 2, 1) := by decide +kernel
theorem dX5_pairUp_79 : decode cX5_pairUp 79 = .ok (.iload_n 3, 1) := by decide +kernel
theorem dX5_pairUp_80 : decode cX5_pairUp 80 = .ok (.invokevirtual 92, 3) := by decide +kernel
theorem dX5_pairUp_83 : decode cX5_pairUp 83 = .ok (.iinc 5 1, 3) := by decide +kernel
theorem dX5_pairUp_86 : decode cX5_pairUp 86 = .ok (.goto (-36), 3) := by decide +kernel
theorem dX5_pairUp_89 : decode cX5_pairUp 89 = .ok (.return_, 1) := by decide +kernel
theorem dX5_tryPair_0 : decode cX5_tryPair 0 = .ok (.aload_n 0, 1) := by decide +kernel
theorem dX5_tryPair_1 : decode cX5_tryPair 1 = .ok (.getfield 14, 3) := by decide +kernel
theorem dX5_tryPair_4 : decode cX5_tryPair 4 = .ok (.iload_n 2, 1) := by decide +kernel
theorem dX5_tryPair_5 : decode cX5_tryPair 5 = .ok (.iload_n 3, 1) := by decide +kernel
theorem dX5_tryPair_6 : decode cX5_tryPair 6 = .ok (.invokevirtual 96, 3) := by decide +kernel
theorem dX5_tryPair_9 : decode cX5_tryPair 9 = .ok (.aload_n 0, 1) := by decide +kernel
theorem dX5_tryPair_10 : decode cX5_tryPair 10 = .ok (.getfield 14, 3) := by decide +kernel
theorem dX5_tryPair_13 : decode cX5_tryPair 13 = .ok (.iload_n 3, 1) := by decide +kernel
theorem dX5_tryPair_14 : decode cX5_tryPair 14 = .ok (.iload_n 2, 1) := by decide +kernel
theorem dX5_tryPair_15 : decode cX5_tryPair 15 = .ok (.invokevirtual 96, 3) := by decide +kernel
theorem dX5_tryPair_18 : decode cX5_tryPair 18 = .ok (.aload_n 0, 1) := by decide +kernel
theorem dX5_tryPair_19 : decode cX5_tryPair 19 = .ok (.aload_n 1, 1) := by decide +kernel
theorem dX5_tryPair_20 : decode cX5_tryPair 20 = .ok (.iload 4, 2) := by decide +kernel
theorem dX5_tryPair_22 : decode cX5_tryPair 22 = .ok (.iload 5, 2) := by decide +kernel
theorem dX5_tryPair_24 : decode cX5_tryPair 24 = .ok (.iconst 1, 1) := by decide +kernel
theorem dX5_tryPair_25 : decode cX5_tryPair 25 = .ok (.iadd, 1) := by decide +kernel
theorem dX5_tryPair_26 : decode cX5_tryPair 26 = .ok (.invokevirtual 74, 3) := by decide +kernel
theorem dX5_tryPair_29 : decode cX5_tryPair 29 = .ok (.aload_n 0, 1) := by decide +kernel
theorem dX5_tryPair_30 : decode cX5_tryPair 30 = .ok (.getfield 14, 3) := by decide +kernel
theorem dX5_tryPair_33 : decode cX5_tryPair 33 = .ok (.iload_n 2, 1) := by decide +kernel
theorem dX5_tryPair_34 : decode cX5_tryPair 34 = .ok (.iconst (-1), 1) := by decide +kernel
theorem dX5_tryPair_35 : decode cX5_tryPair 35 = .ok (.invokevirtual 96, 3) := by decide +kernel
theorem dX5_tryPair_38 : decode cX5_tryPair 38 = .ok (.aload_n 0, 1) := by decide +kernel
theorem dX5_tryPair_39 : decode cX5_tryPair 39 = .ok (.getfield 14, 3) := by decide +kernel
theorem dX5_tryPair_42 : decode cX5_tryPair 42 = .ok (.iload_n 3, 1) := by decide +kernel
theorem dX5_tryPair_43 : decode cX5_tryPair 43 = .ok (.iconst (-1), 1) := by decide +kernel
theorem dX5_tryPair_44 : decode cX5_tryPair 44 = .ok (.invokevirtual 96, 3) := by decide +kernel
theorem dX5_tryPair_47 : decode cX5_tryPair 47 = .ok (.return_, 1) := by decide +kernel
theorem dX5_firstWithout_0 : decode cX5_firstWithout 0 = .ok (.iconst 0, 1) := by decide +kernel
theorem dX5_firstWithout_1 : decode cX5_firstWithout 1 = .ok (.istore_n 2, 1) := by decide +kernel
theorem dX5_firstWithout_2 : decode cX5_firstWithout 2 = .ok (.iload_n 2, 1) := by decide +kernel
theorem dX5_firstWithout_3 : decode cX5_firstWithout 3 = .ok (.iload_n 1, 1) := by decide +kernel
theorem dX5_firstWithout_4 : decode cX5_firstWithout 4 = .ok (.if_icmp .ge 23, 3) := by decide +kernel
theorem dX5_firstWithout_7 : decode cX5_firstWithout 7 = .ok (.aload_n 0, 1) := by decide +kernel
theorem dX5_firstWithout_8 : decode cX5_firstWithout 8 = .ok (.getfield 14, 3) := by decide +kernel
theorem dX5_firstWithout_11 : decode cX5_firstWithout 11 = .ok (.iload_n 2, 1) := by decide +kernel
theorem dX5_firstWithout_12 : decode cX5_firstWithout 12 = .ok (.invokevirtual 82, 3) := by decide +kernel
theorem dX5_firstWithout_15 : decode cX5_firstWithout 15 = .ok (.iconst (-1), 1) := by decide +kernel
theorem dX5_firstWithout_16 : decode cX5_firstWithout 16 = .ok (.if_icmp .ne 5, 3) := by decide +kernel
theorem dX5_firstWithout_19 : decode cX5_firstWithout 19 = .ok (.iload_n 2, 1) := by decide +kernel
theorem dX5_firstWithout_20 : decode cX5_firstWithout 20 = .ok (.ireturn, 1) := by decide +kernel
theorem dX5_firstWithout_21 : decode cX5_firstWithout 21 = .ok (.iinc 2 1, 3) := by decide +kernel
theorem dX5_firstWithout_24 : decode cX5_firstWithout 24 = .ok (.goto (-22), 3) := by decide +kernel
theorem dX5_firstWithout_27 : decode cX5_firstWithout 27 = .ok (.iconst (-1), 1) := by decide +kernel
theorem dX5_firstWithout_28 : decode cX5_firstWithout 28 = .ok (.ireturn, 1) := by decide +kernel
theorem dX5_countIfSteady_0 : decode cX5_countIfSteady 0 = .ok (.iconst 0, 1) := by decide +kernel
theorem dX5_countIfSteady_1 : decode cX5_countIfSteady 1 = .ok (.istore_n 2, 1) := by decide +kernel
theorem dX5_countIfSteady_2 : decode cX5_countIfSteady 2 = .ok (.iload_n 2, 1) := by decide +kernel
theorem dX5_countIfSteady_3 : decode cX5_countIfSteady 3 = .ok (.aload_n 1, 1) := by decide +kernel
theorem dX5_countIfSteady_4 : decode cX5_countIfSteady 4 = .ok (.getfield 29, 3) := by decide +kernel
theorem dX5_countIfSteady_7 : decode cX5_countIfSteady 7 = .ok (.if_icmp .ge 48, 3) := by decide +kernel
theorem dX5_countIfSteady_10 : decode cX5_countIfSteady 10 = .ok (.iload_n 2, 1) := by decide +kernel
theorem dX5_countIfSteady_11 : decode cX5_countIfSteady 11 = .ok (.iconst 1, 1) := by decide +kernel
theorem dX5_countIfSteady_12 : decode cX5_countIfSteady 12 = .ok (.iadd, 1) := by decide +kernel
theorem dX5_countIfSteady_13 : decode cX5_countIfSteady 13 = .ok (.istore_n 3, 1) := by decide +kernel
theorem dX5_countIfSteady_14 : decode cX5_countIfSteady 14 = .ok (.iload_n 3, 1) := by decide +kernel
theorem dX5_countIfSteady_15 : decode cX5_countIfSteady 15 = .ok (.aload_n 1, 1) := by decide +kernel
theorem dX5_countIfSteady_16 : decode cX5_countIfSteady 16 = .ok (.getfield 29, 3) := by decide +kernel
theorem dX5_countIfSteady_19 : decode cX5_countIfSteady 19 = .ok (.if_icmp .ge 30, 3) := by decide +kernel
theorem dX5_countIfSteady_22 : decode cX5_countIfSteady 22 = .ok (.aload_n 0, 1) := by decide +kernel
theorem dX5_countIfSteady_23 : decode cX5_countIfSteady 23 = .ok (.aload_n 1, 1) := by decide +kernel
theorem dX5_countIfSteady_24 : decode cX5_countIfSteady 24 = .ok (.iload_n 2, 1) := by decide +kernel
theorem dX5_countIfSteady_25 : decode cX5_countIfSteady 25 = .ok (.iload_n 3, 1) := by decide +kernel
theorem dX5_countIfSteady_26 : decode cX5_countIfSteady 26 = .ok (.invokevirtual 100, 3) := by decide +kernel
theorem dX5_countIfSteady_29 : decode cX5_countIfSteady 29 = .ok (.ifCond .eq 14, 3) := by decide +kernel
theorem dX5_countIfSteady_32 : decode cX5_countIfSteady 32 = .ok (.aload_n 0, 1) := by decide +kernel
theorem dX5_countIfSteady_33 : decode cX5_countIfSteady 33 = .ok (.aload_n 1, 1) := by decide +kernel
theorem dX5_countIfSteady_34 : decode cX5_countIfSteady 34 = .ok (.iload_n 3, 1) := by decide +kernel
theorem dX5_countIfSteady_35 : decode cX5_countIfSteady 35 = .ok (.iload_n 2, 1) := by decide +kernel
theorem dX5_countIfSteady_36 : decode cX5_countIfSteady 36 = .ok (.invokevirtual 100, 3) := by decide +kernel
theorem dX5_countIfSteady_39 : decode cX5_countIfSteady 39 = .ok (.ifCond .eq 4, 3) := by decide +kernel
theorem dX5_countIfSteady_42 : decode cX5_countIfSteady 42 = .ok (.return_, 1) := by decide +kernel
theorem dX5_countIfSteady_43 : decode cX5_countIfSteady 43 = .ok (.iinc 3 1, 3) := by decide +kernel
theorem dX5_countIfSteady_46 : decode cX5_countIfSteady 46 = .ok (.goto (-32), 3) := by decide +kernel
theorem dX5_countIfSteady_49 : decode cX5_countIfSteady 49 = .ok (.iinc 2 1, 3) := by decide +kernel
theorem dX5_countIfSteady_52 : decode cX5_countIfSteady 52 = .ok (.goto (-50), 3) := by decide +kernel
theorem dX5_countIfSteady_55 : decode cX5_countIfSteady 55 = .ok (.aload_n 0, 1) := by decide +kernel
theorem dX5_countIfSteady_56 : decode cX5_countIfSteady 56 = .ok (.getfield 68, 3) := by decide +kernel
theorem dX5_countIfSteady_59 : decode cX5_countIfSteady 59 = .ok (.ifCond .ne 14, 3) := by decide +kernel
theorem dX5_countIfSteady_62 : decode cX5_countIfSteady 62 = .ok (.aload_n 0, 1) := by decide +kernel
theorem dX5_countIfSteady_63 : decode cX5_countIfSteady 63 = .ok (.getfield 20, 3) := by decide +kernel
theorem dX5_countIfSteady_66 : decode cX5_countIfSteady 66 = .ok (.aload_n 0, 1) := by decide +kernel
theorem dX5_countIfSteady_67 : decode cX5_countIfSteady 67 = .ok (.getfield 14, 3) := by decide +kernel
theorem dX5_countIfSteady_70 : decode cX5_countIfSteady 70 = .ok (.invokevirtual 103, 3) := by decide +kernel
theorem dX5_countIfSteady_73 : decode cX5_countIfSteady 73 = .ok (.aload_n 0, 1) := by decide +kernel
theorem dX5_countIfSteady_74 : decode cX5_countIfSteady 74 = .ok (.dup, 1) := by decide +kernel
theorem dX5_countIfSteady_75 : decode cX5_countIfSteady 75 = .ok (.getfield 68, 3) := by decide +kernel
theorem dX5_countIfSteady_78 : decode cX5_countIfSteady 78 = .ok (.iconst 1, 1) := by decide +kernel
theorem dX5_countIfSteady_79 : decode cX5_countIfSteady 79 = .ok (.iadd, 1) := by decide +kernel
theorem dX5_countIfSteady_80 : decode cX5_countIfSteady 80 = .ok (.putfield 68, 3) := by decide +kernel
theorem dX5_countIfSteady_83 : decode cX5_countIfSteady 83 = .ok (.return_, 1) := by decide +kernel
theorem dX5_wouldLeaveFor_0 : decode cX5_wouldLeaveFor 0 = .ok (.aload_n 0, 1) := by decide +kernel
theorem dX5_wouldLeaveFor_1 : decode cX5_wouldLeaveFor 1 = .ok (.getfield 14, 3) := by decide +kernel
theorem dX5_wouldLeaveFor_4 : decode cX5_wouldLeaveFor 4 = .ok (.iload_n 2, 1) := by decide +kernel
theorem dX5_wouldLeaveFor_5 : decode cX5_wouldLeaveFor 5 = .ok (.invokevirtual 82, 3) := by decide +kernel
theorem dX5_wouldLeaveFor_8 : decode cX5_wouldLeaveFor 8 = .ok (.istore 4, 2) := by decide +kernel
theorem dX5_wouldLeaveFor_10 : decode cX5_wouldLeaveFor 10 = .ok (.iload 4, 2) := by decide +kernel
theorem dX5_wouldLeaveFor_12 : decode cX5_wouldLeaveFor 12 = .ok (.iload_n 2, 1) := by decide +kernel
theorem dX5_wouldLeaveFor_13 : decode cX5_wouldLeaveFor 13 = .ok (.if_icmp .eq 19, 3) := by decide +kernel
theorem dX5_wouldLeaveFor_16 : decode cX5_wouldLeaveFor 16 = .ok (.aload_n 1, 1) := by decide +kernel
theorem dX5_wouldLeaveFor_17 : decode cX5_wouldLeaveFor 17 = .ok (.iload_n 2, 1) := by decide +kernel
theorem dX5_wouldLeaveFor_18 : decode cX5_wouldLeaveFor 18 = .ok (.iload_n 3, 1) := by decide +kernel
theorem dX5_wouldLeaveFor_19 : decode cX5_wouldLeaveFor 19 = .ok (.invokevirtual 47, 3) := by decide +kernel
theorem dX5_wouldLeaveFor_22 : decode cX5_wouldLeaveFor 22 = .ok (.aload_n 1, 1) := by decide +kernel
theorem dX5_wouldLeaveFor_23 : decode cX5_wouldLeaveFor 23 = .ok (.iload_n 2, 1) := by decide +kernel
theorem dX5_wouldLeaveFor_24 : decode cX5_wouldLeaveFor 24 = .ok (.iload 4, 2) := by decide +kernel
theorem dX5_wouldLeaveFor_26 : decode cX5_wouldLeaveFor 26 = .ok (.invokevirtual 47, 3) := by decide +kernel
theorem dX5_wouldLeaveFor_29 : decode cX5_wouldLeaveFor 29 = .ok (.if_icmp .le 7, 3) := by decide +kernel
theorem dX5_wouldLeaveFor_32 : decode cX5_wouldLeaveFor 32 = .ok (.iconst 1, 1) := by decide +kernel
theorem dX5_wouldLeaveFor_33 : decode cX5_wouldLeaveFor 33 = .ok (.goto 4, 3) := by decide +kernel
theorem dX5_wouldLeaveFor_36 : decode cX5_wouldLeaveFor 36 = .ok (.iconst 0, 1) := by decide +kernel
theorem dX5_wouldLeaveFor_37 : decode cX5_wouldLeaveFor 37 = .ok (.ireturn, 1) := by decide +kernel
theorem dX5_mostWeddings_0 : decode cX5_mostWeddings 0 = .ok (.iconst 0, 1) := by decide +kernel
theorem dX5_mostWeddings_1 : decode cX5_mostWeddings 1 = .ok (.istore_n 2, 1) := by decide +kernel
theorem dX5_mostWeddings_2 : decode cX5_mostWeddings 2 = .ok (.iconst 0, 1) := by decide +kernel
theorem dX5_mostWeddings_3 : decode cX5_mostWeddings 3 = .ok (.istore_n 3, 1) := by decide +kernel
theorem dX5_mostWeddings_4 : decode cX5_mostWeddings 4 = .ok (.iload_n 3, 1) := by decide +kernel
theorem dX5_mostWeddings_5 : decode cX5_mostWeddings 5 = .ok (.aload_n 1, 1) := by decide +kernel
theorem dX5_mostWeddings_6 : decode cX5_mostWeddings 6 = .ok (.getfield 29, 3) := by decide +kernel
theorem dX5_mostWeddings_9 : decode cX5_mostWeddings 9 = .ok (.if_icmp .ge 23, 3) := by decide +kernel
theorem dX5_mostWeddings_12 : decode cX5_mostWeddings 12 = .ok (.aload_n 1, 1) := by decide +kernel
theorem dX5_mostWeddings_13 : decode cX5_mostWeddings 13 = .ok (.iload_n 3, 1) := by decide +kernel
theorem dX5_mostWeddings_14 : decode cX5_mostWeddings 14 = .ok (.invokevirtual 23, 3) := by decide +kernel
theorem dX5_mostWeddings_17 : decode cX5_mostWeddings 17 = .ok (.ifCond .ne 9, 3) := by decide +kernel
theorem dX5_mostWeddings_20 : decode cX5_mostWeddings 20 = .ok (.iload_n 2, 1) := by decide +kernel
theorem dX5_mostWeddings_21 : decode cX5_mostWeddings 21 = .ok (.iconst 1, 1) := by decide +kernel
theorem dX5_mostWeddings_22 : decode cX5_mostWeddings 22 = .ok (.iload_n 3, 1) := by decide +kernel
theorem dX5_mostWeddings_23 : decode cX5_mostWeddings 23 = .ok (.ishl, 1) := by decide +kernel
theorem dX5_mostWeddings_24 : decode cX5_mostWeddings 24 = .ok (.ior, 1) := by decide +kernel
theorem dX5_mostWeddings_25 : decode cX5_mostWeddings 25 = .ok (.istore_n 2, 1) := by decide +kernel
theorem dX5_mostWeddings_26 : decode cX5_mostWeddings 26 = .ok (.iinc 3 1, 3) := by decide +kernel
theorem dX5_mostWeddings_29 : decode cX5_mostWeddings 29 = .ok (.goto (-25), 3) := by decide +kernel
theorem dX5_mostWeddings_32 : decode cX5_mostWeddings 32 = .ok (.aload_n 1, 1) := by decide +kernel
theorem dX5_mostWeddings_33 : decode cX5_mostWeddings 33 = .ok (.iload_n 2, 1) := by decide +kernel
theorem dX5_mostWeddings_34 : decode cX5_mostWeddings 34 = .ok (.iconst 0, 1) := by decide +kernel
theorem dX5_mostWeddings_35 : decode cX5_mostWeddings 35 = .ok (.invokestatic 107, 3) := by decide +kernel
theorem dX5_mostWeddings_38 : decode cX5_mostWeddings 38 = .ok (.ireturn, 1) := by decide +kernel
theorem dX5_mostPairs_0 : decode cX5_mostPairs 0 = .ok (.iload_n 2, 1) := by decide +kernel
theorem dX5_mostPairs_1 : decode cX5_mostPairs 1 = .ok (.aload_n 0, 1) := by decide +kernel
theorem dX5_mostPairs_2 : decode cX5_mostPairs 2 = .ok (.getfield 29, 3) := by decide +kernel
theorem dX5_mostPairs_5 : decode cX5_mostPairs 5 = .ok (.if_icmp .ge 9, 3) := by decide +kernel
theorem dX5_mostPairs_8 : decode cX5_mostPairs 8 = .ok (.iload_n 2, 1) := by decide +kernel
theorem dX5_mostPairs_9 : decode cX5_mostPairs 9 = .ok (.bipush 8, 2) := by decide +kernel
theorem dX5_mostPairs_11 : decode cX5_mostPairs 11 = .ok (.if_icmp .lt 5, 3) := by decide +kernel
theorem dX5_mostPairs_14 : decode cX5_mostPairs 14 = .ok (.iconst 0, 1) := by decide +kernel
theorem dX5_mostPairs_15 : decode cX5_mostPairs 15 = .ok (.ireturn, 1) := by decide +kernel
theorem dX5_mostPairs_16 : decode cX5_mostPairs 16 = .ok (.aload_n 0, 1) := by decide +kernel
theorem dX5_mostPairs_17 : decode cX5_mostPairs 17 = .ok (.iload_n 1, 1) := by decide +kernel
theorem dX5_mostPairs_18 : decode cX5_mostPairs 18 = .ok (.iload_n 2, 1) := by decide +kernel
theorem dX5_mostPairs_19 : decode cX5_mostPairs 19 = .ok (.iconst 1, 1) := by decide +kernel
theorem dX5_mostPairs_20 : decode cX5_mostPairs 20 = .ok (.iadd, 1) := by decide +kernel
theorem dX5_mostPairs_21 : decode cX5_mostPairs 21 = .ok (.invokestatic 107, 3) := by decide +kernel
theorem dX5_mostPairs_24 : decode cX5_mostPairs 24 = .ok (.istore_n 3, 1) := by decide +kernel
theorem dX5_mostPairs_25 : decode cX5_mostPairs 25 = .ok (.iload_n 1, 1) := by decide +kernel
theorem dX5_mostPairs_26 : decode cX5_mostPairs 26 = .ok (.iload_n 2, 1) := by decide +kernel
theorem dX5_mostPairs_27 : decode cX5_mostPairs 27 = .ok (.invokestatic 60, 3) := by decide +kernel
theorem dX5_mostPairs_30 : decode cX5_mostPairs 30 = .ok (.ifCond .eq 73, 3) := by decide +kernel
theorem dX5_mostPairs_33 : decode cX5_mostPairs 33 = .ok (.aload_n 0, 1) := by decide +kernel
theorem dX5_mostPairs_34 : decode cX5_mostPairs 34 = .ok (.getfield 111, 3) := by decide +kernel
theorem dX5_mostPairs_37 : decode cX5_mostPairs 37 = .ok (.iload_n 2, 1) := by decide +kernel
theorem dX5_mostPairs_38 : decode cX5_mostPairs 38 = .ok (.invokevirtual 82, 3) := by decide +kernel
theorem dX5_mostPairs_41 : decode cX5_mostPairs 41 = .ok (.aload_n 0, 1) := by decide +kernel
theorem dX5_mostPairs_42 : decode cX5_mostPairs 42 = .ok (.iload_n 2, 1) := by decide +kernel
theorem dX5_mostPairs_43 : decode cX5_mostPairs 43 = .ok (.invokevirtual 114, 3) := by decide +kernel
theorem dX5_mostPairs_46 : decode cX5_mostPairs 46 = .ok (.ior, 1) := by decide +kernel
theorem dX5_mostPairs_47 : decode cX5_mostPairs 47 = .ok (.istore 4, 2) := by decide +kernel
theorem dX5_mostPairs_49 : decode cX5_mostPairs 49 = .ok (.iload_n 2, 1) := by decide +kernel
theorem dX5_mostPairs_50 : decode cX5_mostPairs 50 = .ok (.iconst 1, 1) := by decide +kernel
theorem dX5_mostPairs_51 : decode cX5_mostPairs 51 = .ok (.iadd, 1) := by decide +kernel
theorem dX5_mostPairs_52 : decode cX5_mostPairs 52 = .ok (.istore 5, 2) := by decide +kernel
theorem dX5_mostPairs_54 : decode cX5_mostPairs 54 = .ok (.iload 5, 2) := by decide +kernel
theorem dX5_mostPairs_56 : decode cX5_mostPairs 56 = .ok (.aload_n 0, 1) := by decide +kernel
theorem dX5_mostPairs_57 : decode cX5_mostPairs 57 = .ok (.getfield 29, 3) := by decide +kernel
theorem dX5_mostPairs_60 : decode cX5_mostPairs 60 = .ok (.if_icmp .ge 43, 3) := by decide +kernel
theorem dX5_mostPairs_63 : decode cX5_mostPairs 63 = .ok (.iload_n 1, 1) := by decide +kernel
theorem dX5_mostPairs_64 : decode cX5_mostPairs 64 = .ok (.iload 4, 2) := by decide +kernel
theorem dX5_mostPairs_66 : decode cX5_mostPairs 66 = .ok (.iand, 1) := by decide +kernel
theorem dX5_mostPairs_67 : decode cX5_mostPairs 67 = .ok (.iload 5, 2) := by decide +kernel
theorem dX5_mostPairs_69 : decode cX5_mostPairs 69 = .ok (.invokestatic 60, 3) := by decide +kernel
theorem dX5_mostPairs_72 : decode cX5_mostPairs 72 = .ok (.ifCond .eq 25, 3) := by decide +kernel
theorem dX5_mostPairs_75 : decode cX5_mostPairs 75 = .ok (.iload_n 3, 1) := by decide +kernel
theorem dX5_mostPairs_76 : decode cX5_mostPairs 76 = .ok (.iconst 1, 1) := by decide +kernel
theorem dX5_mostPairs_77 : decode cX5_mostPairs 77 = .ok (.aload_n 0, 1) := by decide +kernel
theorem dX5_mostPairs_78 : decode cX5_mostPairs 78 = .ok (.iload_n 1, 1) := by decide +kernel
theorem dX5_mostPairs_79 : decode cX5_mostPairs 79 = .ok (.iconst 1, 1) := by decide +kernel
theorem dX5_mostPairs_80 : decode cX5_mostPairs 80 = .ok (.iload 5, 2) := by decide +kernel
theorem dX5_mostPairs_82 : decode cX5_mostPairs 82 = .ok (.ishl, 1) := by decide +kernel
theorem dX5_mostPairs_83 : decode cX5_mostPairs 83 = .ok (.iconst (-1), 1) := by decide +kernel
theorem dX5_mostPairs_84 : decode cX5_mostPairs 84 = .ok (.ixor, 1) := by decide +kernel
theorem dX5_mostPairs_85 : decode cX5_mostPairs 85 = .ok (.iand, 1) := by decide +kernel
theorem dX5_mostPairs_86 : decode cX5_mostPairs 86 = .ok (.iload_n 2, 1) := by decide +kernel
theorem dX5_mostPairs_87 : decode cX5_mostPairs 87 = .ok (.iconst 1, 1) := by decide +kernel
theorem dX5_mostPairs_88 : decode cX5_mostPairs 88 = .ok (.iadd, 1) := by decide +kernel
theorem dX5_mostPairs_89 : decode cX5_mostPairs 89 = .ok (.invokestatic 107, 3) := by decide +kernel
theorem dX5_mostPairs_92 : decode cX5_mostPairs 92 = .ok (.iadd, 1) := by decide +kernel
theorem dX5_mostPairs_93 : decode cX5_mostPairs 93 = .ok (.invokestatic 117, 3) := by decide +kernel
theorem dX5_mostPairs_96 : decode cX5_mostPairs 96 = .ok (.istore_n 3, 1) := by decide +kernel
theorem dX5_mostPairs_97 : decode cX5_mostPairs 97 = .ok (.iinc 5 1, 3) := by decide +kernel
theorem dX5_mostPairs_100 : decode cX5_mostPairs 100 = .ok (.goto (-46), 3) := by decide +kernel
theorem dX5_mostPairs_103 : decode cX5_mostPairs 103 = .ok (.iload_n 3, 1) := by decide +kernel
theorem dX5_mostPairs_104 : decode cX5_mostPairs 104 = .ok (.ireturn, 1) := by decide +kernel
theorem dX6_init_0 : decode cX6_init 0 = .ok (.aload_n 0, 1) := by decide +kernel
theorem dX6_init_1 : decode cX6_init 1 = .ok (.invokespecial 1, 3) := by decide +kernel
theorem dX6_init_4 : decode cX6_init 4 = .ok (.aload_n 0, 1) := by decide +kernel
theorem dX6_init_5 : decode cX6_init 5 = .ok (.iload_n 1, 1) := by decide +kernel
theorem dX6_init_6 : decode cX6_init 6 = .ok (.ifCond .le 7, 3) := by decide +kernel
theorem dX6_init_9 : decode cX6_init 9 = .ok (.iload_n 1, 1) := by decide +kernel
theorem dX6_init_10 : decode cX6_init 10 = .ok (.goto 4, 3) := by decide +kernel
theorem dX6_init_13 : decode cX6_init 13 = .ok (.iconst 0, 1) := by decide +kernel
theorem dX6_init_14 : decode cX6_init 14 = .ok (.newarray .int, 2) := by decide +kernel
theorem dX6_init_16 : decode cX6_init 16 = .ok (.putfield 7, 3) := by decide +kernel
theorem dX6_init_19 : decode cX6_init 19 = .ok (.return_, 1) := by decide +kernel
theorem dX6_at_0 : decode cX6_at 0 = .ok (.iload_n 1, 1) := by decide +kernel
theorem dX6_at_1 : decode cX6_at 1 = .ok (.ifCond .lt 21, 3) := by decide +kernel
theorem dX6_at_4 : decode cX6_at 4 = .ok (.iload_n 1, 1) := by decide +kernel
theorem dX6_at_5 : decode cX6_at 5 = .ok (.aload_n 0, 1) := by decide +kernel
theorem dX6_at_6 : decode cX6_at 6 = .ok (.getfield 7, 3) := by decide +kernel
theorem dX6_at_9 : decode cX6_at 9 = .ok (.arraylength, 1) := by decide +kernel
theorem dX6_at_10 : decode cX6_at 10 = .ok (.if_icmp .ge 12, 3) := by decide +kernel
theorem dX6_at_13 : decode cX6_at 13 = .ok (.aload_n 0, 1) := by decide +kernel
theorem dX6_at_14 : decode cX6_at 14 = .ok (.getfield 7, 3) := by decide +kernel
theorem dX6_at_17 : decode cX6_at 17 = .ok (.iload_n 1, 1) := by decide +kernel
theorem dX6_at_18 : decode cX6_at 18 = .ok (.iaload, 1) := by decide +kernel
theorem dX6_at_19 : decode cX6_at 19 = .ok (.goto 4, 3) := by decide +kernel
theorem dX6_at_22 : decode cX6_at 22 = .ok (.iconst 0, 1) := by decide +kernel
theorem dX6_at_23 : decode cX6_at 23 = .ok (.ireturn, 1) := by decide +kernel
theorem dX6_put_0 : decode cX6_put 0 = .ok (.iload_n 1, 1) := by decide +kernel
theorem dX6_put_1 : decode cX6_put 1 = .ok (.ifCond .lt 19, 3) := by decide +kernel
theorem dX6_put_4 : decode cX6_put 4 = .ok (.iload_n 1, 1) := by decide +kernel
theorem dX6_put_5 : decode cX6_put 5 = .ok (.aload_n 0, 1) := by decide +kernel
theorem dX6_put_6 : decode cX6_put 6 = .ok (.getfield 7, 3) := by decide +kernel
theorem dX6_put_9 : decode cX6_put 9 = .ok (.arraylength, 1) := by decide +kernel
theorem dX6_put_10 : decode cX6_put 10 = .ok (.if_icmp .ge 10, 3) := by decide +kernel
theorem dX6_put_13 : decode cX6_put 13 = .ok (.aload_n 0, 1) := by decide +kernel
theorem dX6_put_14 : decode cX6_put 14 = .ok (.getfield 7, 3) := by decide +kernel
theorem dX6_put_17 : decode cX6_put 17 = .ok (.iload_n 1, 1) := by decide +kernel
theorem dX6_put_18 : decode cX6_put 18 = .ok (.iload_n 2, 1) := by decide +kernel
theorem dX6_put_19 : decode cX6_put 19 = .ok (.iastore, 1) := by decide +kernel
theorem dX6_put_20 : decode cX6_put 20 = .ok (.return_, 1) := by decide +kernel
theorem dX6_putAll_0 : decode cX6_putAll 0 = .ok (.iconst 0, 1) := by decide +kernel
theorem dX6_putAll_1 : decode cX6_putAll 1 = .ok (.istore_n 2, 1) := by decide +kernel
theorem dX6_putAll_2 : decode cX6_putAll 2 = .ok (.iload_n 2, 1) := by decide +kernel
theorem dX6_putAll_3 : decode cX6_putAll 3 = .ok (.aload_n 0, 1) := by decide +kernel
theorem dX6_putAll_4 : decode cX6_putAll 4 = .ok (.getfield 7, 3) := by decide +kernel
theorem dX6_putAll_7 : decode cX6_putAll 7 = .ok (.arraylength, 1) := by decide +kernel
theorem dX6_putAll_8 : decode cX6_putAll 8 = .ok (.if_icmp .ge 16, 3) := by decide +kernel
theorem dX6_putAll_11 : decode cX6_putAll 11 = .ok (.aload_n 0, 1) := by decide +kernel
theorem dX6_putAll_12 : decode cX6_putAll 12 = .ok (.getfield 7, 3) := by decide +kernel
theorem dX6_putAll_15 : decode cX6_putAll 15 = .ok (.iload_n 2, 1) := by decide +kernel
theorem dX6_putAll_16 : decode cX6_putAll 16 = .ok (.iload_n 1, 1) := by decide +kernel
theorem dX6_putAll_17 : decode cX6_putAll 17 = .ok (.iastore, 1) := by decide +kernel
theorem dX6_putAll_18 : decode cX6_putAll 18 = .ok (.iinc 2 1, 3) := by decide +kernel
theorem dX6_putAll_21 : decode cX6_putAll 21 = .ok (.goto (-19), 3) := by decide +kernel
theorem dX6_putAll_24 : decode cX6_putAll 24 = .ok (.return_, 1) := by decide +kernel
theorem dX6_copyAll_0 : decode cX6_copyAll 0 = .ok (.aload_n 1, 1) := by decide +kernel
theorem dX6_copyAll_1 : decode cX6_copyAll 1 = .ok (.getfield 7, 3) := by decide +kernel
theorem dX6_copyAll_4 : decode cX6_copyAll 4 = .ok (.iconst 0, 1) := by decide +kernel
theorem dX6_copyAll_5 : decode cX6_copyAll 5 = .ok (.aload_n 0, 1) := by decide +kernel
theorem dX6_copyAll_6 : decode cX6_copyAll 6 = .ok (.getfield 7, 3) := by decide +kernel
theorem dX6_copyAll_9 : decode cX6_copyAll 9 = .ok (.iconst 0, 1) := by decide +kernel
theorem dX6_copyAll_10 : decode cX6_copyAll 10 = .ok (.aload_n 0, 1) := by decide +kernel
theorem dX6_copyAll_11 : decode cX6_copyAll 11 = .ok (.getfield 7, 3) := by decide +kernel
theorem dX6_copyAll_14 : decode cX6_copyAll 14 = .ok (.arraylength, 1) := by decide +kernel
theorem dX6_copyAll_15 : decode cX6_copyAll 15 = .ok (.aload_n 1, 1) := by decide +kernel
theorem dX6_copyAll_16 : decode cX6_copyAll 16 = .ok (.getfield 7, 3) := by decide +kernel
theorem dX6_copyAll_19 : decode cX6_copyAll 19 = .ok (.arraylength, 1) := by decide +kernel
theorem dX6_copyAll_20 : decode cX6_copyAll 20 = .ok (.invokestatic 13, 3) := by decide +kernel
theorem dX6_copyAll_23 : decode cX6_copyAll 23 = .ok (.invokestatic 19, 3) := by decide +kernel
theorem dX6_copyAll_26 : decode cX6_copyAll 26 = .ok (.return_, 1) := by decide +kernel
theorem dX7_init_0 : decode cX7_init 0 = .ok (.aload_n 0, 1) := by decide +kernel
theorem dX7_init_1 : decode cX7_init 1 = .ok (.invokespecial 3, 3) := by decide +kernel
theorem dX7_init_4 : decode cX7_init 4 = .ok (.aload_n 0, 1) := by decide +kernel
theorem dX7_init_5 : decode cX7_init 5 = .ok (.new 9, 3) := by decide +kernel
theorem dX7_init_8 : decode cX7_init 8 = .ok (.dup, 1) := by decide +kernel
theorem dX7_init_9 : decode cX7_init 9 = .ok (.sipush 400, 3) := by decide +kernel
theorem dX7_init_12 : decode cX7_init 12 = .ok (.invokespecial 11, 3) := by decide +kernel
theorem dX7_init_15 : decode cX7_init 15 = .ok (.putfield 14, 3) := by decide +kernel
theorem dX7_init_18 : decode cX7_init 18 = .ok (.aload_n 0, 1) := by decide +kernel
theorem dX7_init_19 : decode cX7_init 19 = .ok (.sipush 400, 3) := by decide +kernel
theorem dX7_init_22 : decode cX7_init 22 = .ok (.anewarray 20, 3) := by decide +kernel
theorem dX7_init_25 : decode cX7_init 25 = .ok (.putfield 22, 3) := by decide +kernel
theorem dX7_init_28 : decode cX7_init 28 = .ok (.aload_n 0, 1) := by decide +kernel
theorem dX7_init_29 : decode cX7_init 29 = .ok (.sipush 400, 3) := by decide +kernel
theorem dX7_init_32 : decode cX7_init 32 = .ok (.newarray .int, 2) := by decide +kernel
theorem dX7_init_34 : decode cX7_init 34 = .ok (.putfield 26, 3) := by decide +kernel
theorem dX7_init_37 : decode cX7_init 37 = .ok (.aload_n 0, 1) := by decide +kernel
theorem dX7_init_38 : decode cX7_init 38 = .ok (.sipush 400, 3) := by decide +kernel
theorem dX7_init_41 : decode cX7_init 41 = .ok (.newarray .int, 2) := by decide +kernel
theorem dX7_init_43 : decode cX7_init 43 = .ok (.putfield 30, 3) := by decide +kernel
theorem dX7_init_46 : decode cX7_init 46 = .ok (.aload_n 0, 1) := by decide +kernel
theorem dX7_init_47 : decode cX7_init 47 = .ok (.sipush 400, 3) := by decide +kernel
theorem dX7_init_50 : decode cX7_init 50 = .ok (.newarray .int, 2) := by decide +kernel
theorem dX7_init_52 : decode cX7_init 52 = .ok (.putfield 33, 3) := by decide +kernel
theorem dX7_init_55 : decode cX7_init 55 = .ok (.aload_n 0, 1) := by decide +kernel
theorem dX7_init_56 : decode cX7_init 56 = .ok (.getstatic 36, 3) := by decide +kernel
theorem dX7_init_59 : decode cX7_init 59 = .ok (.putfield 40, 3) := by decide +kernel
theorem dX7_init_62 : decode cX7_init 62 = .ok (.aload_n 0, 1) := by decide +kernel
theorem dX7_init_63 : decode cX7_init 63 = .ok (.iconst (-1), 1) := by decide +kernel
theorem dX7_init_64 : decode cX7_init 64 = .ok (.putfield 43, 3) := by decide +kernel
theorem dX7_init_67 : decode cX7_init 67 = .ok (.aload_n 0, 1) := by decide +kernel
theorem dX7_init_68 : decode cX7_init 68 = .ok (.iconst (-1), 1) := by decide +kernel
theorem dX7_init_69 : decode cX7_init 69 = .ok (.putfield 47, 3) := by decide +kernel
theorem dX7_init_72 : decode cX7_init 72 = .ok (.return_, 1) := by decide +kernel
theorem dX7_linesOf_0 : decode cX7_linesOf 0 = .ok (.aload_n 0, 1) := by decide +kernel
theorem dX7_linesOf_1 : decode cX7_linesOf 1 = .ok (.getfield 14, 3) := by decide +kernel
theorem dX7_linesOf_4 : decode cX7_linesOf 4 = .ok (.aload_n 1, 1) := by decide +kernel
theorem dX7_linesOf_5 : decode cX7_linesOf 5 = .ok (.invokevirtual 50, 3) := by decide +kernel
theorem dX7_linesOf_8 : decode cX7_linesOf 8 = .ok (.aload_n 0, 1) := by decide +kernel
theorem dX7_linesOf_9 : decode cX7_linesOf 9 = .ok (.iload_n 2, 1) := by decide +kernel
theorem dX7_linesOf_10 : decode cX7_linesOf 10 = .ok (.putfield 54, 3) := by decide +kernel
theorem dX7_linesOf_13 : decode cX7_linesOf 13 = .ok (.aload_n 0, 1) := by decide +kernel
theorem dX7_linesOf_14 : decode cX7_linesOf 14 = .ok (.iconst (-1), 1) := by decide +kernel
theorem dX7_linesOf_15 : decode cX7_linesOf 15 = .ok (.putfield 47, 3) := by decide +kernel
theorem dX7_linesOf_18 : decode cX7_linesOf 18 = .ok (.aload_n 0, 1) := by decide +kernel
theorem dX7_linesOf_19 : decode cX7_linesOf 19 = .ok (.invokevirtual 57, 3) := by decide +kernel
theorem dX7_linesOf_22 : decode cX7_linesOf 22 = .ok (.aload_n 0, 1) := by decide +kernel
theorem dX7_linesOf_23 : decode cX7_linesOf 23 = .ok (.iconst (-1), 1) := by decide +kernel
theorem dX7_linesOf_24 : decode cX7_linesOf 24 = .ok (.putfield 60, 3) := by decide +kernel
theorem dX7_linesOf_27 : decode cX7_linesOf 27 = .ok (.aload_n 0, 1) := by decide +kernel
theorem dX7_linesOf_28 : decode cX7_linesOf 28 = .ok (.invokevirtual 63, 3) := by decide +kernel
theorem dX7_linesOf_31 : decode cX7_linesOf 31 = .ok (.aload_n 0, 1) := by decide +kernel
theorem dX7_linesOf_32 : decode cX7_linesOf 32 = .ok (.getfield 40, 3) := by decide +kernel
theorem dX7_linesOf_35 : decode cX7_linesOf 35 = .ok (.getstatic 36, 3) := by decide +kernel
theorem dX7_linesOf_38 : decode cX7_linesOf 38 = .ok (.if_acmp .ne 5, 3) := by decide +kernel
theorem dX7_linesOf_41 : decode cX7_linesOf 41 = .ok (.iconst 0, 1) := by decide +kernel
theorem dX7_linesOf_42 : decode cX7_linesOf 42 = .ok (.ireturn, 1) := by decide +kernel
theorem dX7_linesOf_43 : decode cX7_linesOf 43 = .ok (.iconst 1, 1) := by decide +kernel
theorem dX7_linesOf_44 : decode cX7_linesOf 44 = .ok (.istore 4, 2) := by decide +kernel
theorem dX7_linesOf_46 : decode cX7_linesOf 46 = .ok (.iload 4, 2) := by decide +kernel
theorem dX7_linesOf_48 : decode cX7_linesOf 48 = .ok (.iload_n 3, 1) := by decide +kernel
theorem dX7_linesOf_49 : decode cX7_linesOf 49 = .ok (.if_icmp .gt 43, 3) := by decide +kernel
theorem dX7_linesOf_52 : decode cX7_linesOf 52 = .ok (.aload_n 0, 1) := by decide +kernel
theorem dX7_linesOf_53 : decode cX7_linesOf 53 = .ok (.invokevirtual 66, 3) := by decide +kernel
theorem dX7_linesOf_56 : decode cX7_linesOf 56 = .ok (.ifCond .ne 5, 3) := by decide +kernel
theorem dX7_linesOf_59 : decode cX7_linesOf 59 = .ok (.iconst (-1), 1) := by decide +kernel
theorem dX7_linesOf_60 : decode cX7_linesOf 60 = .ok (.ireturn, 1) := by decide +kernel
theorem dX7_linesOf_61 : decode cX7_linesOf 61 = .ok (.aload_n 0, 1) := by decide +kernel
theorem dX7_linesOf_62 : decode cX7_linesOf 62 = .ok (.getfield 40, 3) := by decide +kernel
theorem dX7_linesOf_65 : decode cX7_linesOf 65 = .ok (.getstatic 36, 3) := by decide +kernel
theorem dX7_linesOf_68 : decode cX7_linesOf 68 = .ok (.if_acmp .ne 6, 3) := by decide +kernel
theorem dX7_linesOf_71 : decode cX7_linesOf 71 = .ok (.iload 4, 2) := by decide +kernel
theorem dX7_linesOf_73 : decode cX7_linesOf 73 = .ok (.ireturn, 1) := by decide +kernel
theorem dX7_linesOf_74 : decode cX7_linesOf 74 = .ok (.aload_n 0, 1) := by decide +kernel
theorem dX7_linesOf_75 : decode cX7_linesOf 75 = .ok (.getstatic 70, 3) := by decide +kernel
theorem dX7_linesOf_78 : decode cX7_linesOf 78 = .ok (.invokevirtual 73, 3) := by decide +kernel
theorem dX7_linesOf_81 : decode cX7_linesOf 81 = .ok (.ifCond .ne 5, 3) := by decide +kernel
theorem dX7_linesOf_84 : decode cX7_linesOf 84 = .ok (.iconst (-1), 1) := by decide +kernel
theorem dX7_linesOf_85 : decode cX7_linesOf 85 = .ok (.ireturn, 1) := by decide +kernel
theorem dX7_linesOf_86 : decode cX7_linesOf 86 = .ok (.iinc 4 1, 3) := by decide +kernel
theorem dX7_linesOf_89 : decode cX7_linesOf 89 = .ok (.goto (-43), 3) := by decide +kernel
theorem dX7_linesOf_92 : decode cX7_linesOf 92 = .ok (.aload_n 0, 1) := by decide +kernel
theorem dX7_linesOf_93 : decode cX7_linesOf 93 = .ok (.invokevirtual 77, 3) := by decide +kernel
theorem dX7_linesOf_96 : decode cX7_linesOf 96 = .ok (.pop, 1) := by decide +kernel
theorem dX7_linesOf_97 : decode cX7_linesOf 97 = .ok (.iconst (-1), 1) := by decide +kernel
theorem dX7_linesOf_98 : decode cX7_linesOf 98 = .ok (.ireturn, 1) := by decide +kernel
theorem dX7_cut_0 : decode cX7_cut 0 = .ok (.aload_n 0, 1) := by decide +kernel
theorem dX7_cut_1 : decode cX7_cut 1 = .ok (.iconst 0, 1) := by decide +kernel
theorem dX7_cut_2 : decode cX7_cut 2 = .ok (.putfield 80, 3) := by decide +kernel
theorem dX7_cut_5 : decode cX7_cut 5 = .ok (.iconst 0, 1) := by decide +kernel
theorem dX7_cut_6 : decode cX7_cut 6 = .ok (.istore_n 1, 1) := by decide +kernel
theorem dX7_cut_7 : decode cX7_cut 7 = .ok (.iconst 0, 1) := by decide +kernel
theorem dX7_cut_8 : decode cX7_cut 8 = .ok (.istore_n 2, 1) := by decide +kernel
theorem dX7_cut_9 : decode cX7_cut 9 = .ok (.iload_n 2, 1) := by decide +kernel
theorem dX7_cut_10 : decode cX7_cut 10 = .ok (.sipush 400, 3) := by decide +kernel
theorem dX7_cut_13 : decode cX7_cut 13 = .ok (.if_icmp .ge 44, 3) := by decide +kernel
theorem dX7_cut_16 : decode cX7_cut 16 = .ok (.iload_n 1, 1) := by decide +kernel
theorem dX7_cut_17 : decode cX7_cut 17 = .ok (.aload_n 0, 1) := by decide +kernel
theorem dX7_cut_18 : decode cX7_cut 18 = .ok (.getfield 54, 3) := by decide +kernel
theorem dX7_cut_21 : decode cX7_cut 21 = .ok (.if_icmp .ge 36, 3) := by decide +kernel
theorem dX7_cut_24 : decode cX7_cut 24 = .ok (.aload_n 0, 1) := by decide +kernel
theorem dX7_cut_25 : decode cX7_cut 25 = .ok (.iload_n 1, 1) := by decide +kernel
theorem dX7_cut_26 : decode cX7_cut 26 = .ok (.invokevirtual 83, 3) := by decide +kernel
theorem dX7_cut_29 : decode cX7_cut 29 = .ok (.istore_n 3, 1) := by decide +kernel
theorem dX7_cut_30 : decode cX7_cut 30 = .ok (.aload_n 0, 1) := by decide +kernel
theorem dX7_cut_31 : decode cX7_cut 31 = .ok (.getfield 14, 3) := by decide +kernel
theorem dX7_cut_34 : decode cX7_cut 34 = .ok (.iload_n 1, 1) := by decide +kernel
theorem dX7_cut_35 : decode cX7_cut 35 = .ok (.invokevirtual 87, 3) := by decide +kernel
theorem dX7_cut_38 : decode cX7_cut 38 = .ok (.bipush 32, 2) := by decide +kernel
theorem dX7_cut_40 : decode cX7_cut 40 = .ok (.if_icmp .eq 9, 3) := by decide +kernel
theorem dX7_cut_43 : decode cX7_cut 43 = .ok (.aload_n 0, 1) := by decide +kernel
theorem dX7_cut_44 : decode cX7_cut 44 = .ok (.iload_n 1, 1) := by decide +kernel
theorem dX7_cut_45 : decode cX7_cut 45 = .ok (.iload_n 3, 1) := by decide +kernel
theorem dX7_cut_46 : decode cX7_cut 46 = .ok (.invokevirtual 90, 3) := by decide +kernel
theorem dX7_cut_49 : decode cX7_cut 49 = .ok (.iload_n 3, 1) := by decide +kernel
theorem dX7_cut_50 : decode cX7_cut 50 = .ok (.istore_n 1, 1) := by decide +kernel
theorem dX7_cut_51 : decode cX7_cut 51 = .ok (.iinc 2 1, 3) := by decide +kernel
theorem dX7_cut_54 : decode cX7_cut 54 = .ok (.goto (-45), 3) := by decide +kernel
theorem dX7_cut_57 : decode cX7_cut 57 = .ok (.return_, 1) := by decide +kernel
theorem dX7_stopOf_0 : decode cX7_stopOf 0 = .ok (.iload_n 1, 1) := by decide +kernel
theorem dX7_stopOf_1 : decode cX7_stopOf 1 = .ok (.iconst 1, 1) := by decide +kernel
theorem dX7_stopOf_2 : decode cX7_stopOf 2 = .ok (.iadd, 1) := by decide +kernel
theorem dX7_stopOf_3 : decode cX7_stopOf 3 = .ok (.istore_n 2, 1) := by decide +kernel
theorem dX7_stopOf_4 : decode cX7_stopOf 4 = .ok (.aload_n 0, 1) := by decide +kernel
theorem dX7_stopOf_5 : decode cX7_stopOf 5 = .ok (.getfield 14, 3) := by decide +kernel
theorem dX7_stopOf_8 : decode cX7_stopOf 8 = .ok (.iload_n 1, 1) := by decide +kernel
theorem dX7_stopOf_9 : decode cX7_stopOf 9 = .ok (.invokevirtual 87, 3) := by decide +kernel
theorem dX7_stopOf_12 : decode cX7_stopOf 12 = .ok (.invokestatic 94, 3) := by decide +kernel
theorem dX7_stopOf_15 : decode cX7_stopOf 15 = .ok (.istore_n 3, 1) := by decide +kernel
theorem dX7_stopOf_16 : decode cX7_stopOf 16 = .ok (.aload_n 0, 1) := by decide +kernel
theorem dX7_stopOf_17 : decode cX7_stopOf 17 = .ok (.getfield 14, 3) := by decide +kernel
theorem dX7_stopOf_20 : decode cX7_stopOf 20 = .ok (.iload_n 1, 1) := by decide +kernel
theorem dX7_stopOf_21 : decode cX7_stopOf 21 = .ok (.invokevirtual 87, 3) := by decide +kernel
theorem dX7_stopOf_24 : decode cX7_stopOf 24 = .ok (.invokestatic 98, 3) := by decide +kernel
theorem dX7_stopOf_27 : decode cX7_stopOf 27 = .ok (.istore 4, 2) := by decide +kernel
theorem dX7_stopOf_29 : decode cX7_stopOf 29 = .ok (.iload_n 2, 1) := by decide +kernel
theorem dX7_stopOf_30 : decode cX7_stopOf 30 = .ok (.aload_n 0, 1) := by decide +kernel
theorem dX7_stopOf_31 : decode cX7_stopOf 31 = .ok (.getfield 54, 3) := by decide +kernel
theorem dX7_stopOf_34 : decode cX7_stopOf 34 = .ok (.if_icmp .ge 46, 3) := by decide +kernel
theorem dX7_stopOf_37 : decode cX7_stopOf 37 = .ok (.iload_n 3, 1) := by decide +kernel
theorem dX7_stopOf_38 : decode cX7_stopOf 38 = .ok (.ifCond .eq 17, 3) := by decide +kernel
theorem dX7_stopOf_41 : decode cX7_stopOf 41 = .ok (.aload_n 0, 1) := by decide +kernel
theorem dX7_stopOf_42 : decode cX7_stopOf 42 = .ok (.getfield 14, 3) := by decide +kernel
theorem dX7_stopOf_45 : decode cX7_stopOf 45 = .ok (.iload_n 2, 1) := by decide +kernel
theorem dX7_stopOf_46 : decode cX7_stopOf 46 = .ok (.invokevirtual 87, 3) := by decide +kernel
theorem dX7_stopOf_49 : decode cX7_stopOf 49 = .ok (.invokestatic 94, 3) := by decide +kernel
theorem dX7_stopOf_52 : decode cX7_stopOf 52 = .ok (.ifCond .ne 22, 3) := by decide +kernel
theorem dX7_stopOf_55 : decode cX7_stopOf 55 = .ok (.iload 4, 2) := by decide +kernel
theorem dX7_stopOf_57 : decode cX7_stopOf 57 = .ok (.ifCond .eq 23, 3) := by decide +kernel
theorem dX7_stopOf_60 : decode cX7_stopOf 60 = .ok (.aload_n 0, 1) := by decide +kernel
theorem dX7_stopOf_61 : decode cX7_stopOf 61 = .ok (.getfield 14, 3) := by decide +kernel
theorem dX7_stopOf_64 : decode cX7_stopOf 64 = .ok (.iload_n 2, 1) := by decide +kernel
theorem dX7_stopOf_65 : decode cX7_stopOf 65 = .ok (.invokevirtual 87, 3) := by decide +kernel
theorem dX7_stopOf_68 : decode cX7_stopOf 68 = .ok (.invokestatic 98, 3) := by decide +kernel
theorem dX7_stopOf_71 : decode cX7_stopOf 71 = .ok (.ifCond .eq 9, 3) := by decide +kernel
theorem dX7_stopOf_74 : decode cX7_stopOf 74 = .ok (.iinc 2 1, 3) := by decide +kernel
theorem dX7_stopOf_77 : decode cX7_stopOf 77 = .ok (.goto (-48), 3) := by decide +kernel
theorem dX7_stopOf_80 : decode cX7_stopOf 80 = .ok (.iload_n 2, 1) := by decide +kernel
theorem dX7_stopOf_81 : decode cX7_stopOf 81 = .ok (.ireturn, 1) := by decide +kernel
theorem dX7_addThing_0 : decode cX7_addThing 0 = .ok (.aload_n 0, 1) := by decide +kernel
theorem dX7_addThing_1 : decode cX7_addThing 1 = .ok (.getfield 80, 3) := by decide +kernel
theorem dX7_addThing_4 : decode cX7_addThing 4 = .ok (.ifCond .lt 144, 3) := by decide +kernel
theorem dX7_addThing_7 : decode cX7_addThing 7 = .ok (.aload_n 0, 1) := by decide +kernel
theorem dX7_addThing_8 : decode cX7_addThing 8 = .ok (.getfield 80, 3) := by decide +kernel
theorem dX7_addThing_11 : decode cX7_addThing 11 = .ok (.aload_n 0, 1) := by decide +kernel
theorem dX7_addThing_12 : decode cX7_addThing 12 = .ok (.getfield 22, 3) := by decide +kernel
theorem dX7_addThing_15 : decode cX7_addThing 15 = .ok (.arraylength, 1) := by decide +kernel
theorem dX7_addThing_16 : decode cX7_addThing 16 = .ok (.if_icmp .ge 132, 3) := by decide +kernel
theorem dX7_addThing_19 : decode cX7_addThing 19 = .ok (.aload_n 0, 1) := by decide +kernel
theorem dX7_addThing_20 : decode cX7_addThing 20 = .ok (.getfield 80, 3) := by decide +kernel
theorem dX7_addThing_23 : decode cX7_addThing 23 = .ok (.aload_n 0, 1) := by decide +kernel
theorem dX7_addThing_24 : decode cX7_addThing 24 = .ok (.getfield 26, 3) := by decide +kernel
theorem dX7_addThing_27 : decode cX7_addThing 27 = .ok (.arraylength, 1) := by decide +kernel
theorem dX7_addThing_28 : decode cX7_addThing 28 = .ok (.if_icmp .ge 120, 3) := by decide +kernel
theorem dX7_addThing_31 : decode cX7_addThing 31 = .ok (.aload_n 0, 1) := by decide +kernel
theorem dX7_addThing_32 : decode cX7_addThing 32 = .ok (.getfield 80, 3) := by decide +kernel
theorem dX7_addThing_35 : decode cX7_addThing 35 = .ok (.aload_n 0, 1) := by decide +kernel
theorem dX7_addThing_36 : decode cX7_addThing 36 = .ok (.getfield 30, 3) := by decide +kernel
theorem dX7_addThing_39 : decode cX7_addThing 39 = .ok (.arraylength, 1) := by decide +kernel
theorem dX7_addThing_40 : decode cX7_addThing 40 = .ok (.if_icmp .ge 108, 3) := by decide +kernel
theorem dX7_addThing_43 : decode cX7_addThing 43 = .ok (.aload_n 0, 1) := by decide +kernel
theorem dX7_addThing_44 : decode cX7_addThing 44 = .ok (.getfield 80, 3) := by decide +kernel
theorem dX7_addThing_47 : decode cX7_addThing 47 = .ok (.aload_n 0, 1) := by decide +kernel
theorem dX7_addThing_48 : decode cX7_addThing 48 = .ok (.getfield 33, 3) := by decide +kernel
theorem dX7_addThing_51 : decode cX7_addThing 51 = .ok (.arraylength, 1) := by decide +kernel
theorem dX7_addThing_52 : decode cX7_addThing 52 = .ok (.if_icmp .ge 96, 3) := by decide +kernel
theorem dX7_addThing_55 : decode cX7_addThing 55 = .ok (.aload_n 0, 1) := by decide +kernel
theorem dX7_addThing_56 : decode cX7_addThing 56 = .ok (.getfield 14, 3) := by decide +kernel
theorem dX7_addThing_59 : decode cX7_addThing 59 = .ok (.iload_n 1, 1) := by decide +kernel
theorem dX7_addThing_60 : decode cX7_addThing 60 = .ok (.invokevirtual 87, 3) := by decide +kernel
theorem dX7_addThing_63 : decode cX7_addThing 63 = .ok (.invokestatic 98, 3) := by decide +kernel
theorem dX7_addThing_66 : decode cX7_addThing 66 = .ok (.istore_n 3, 1) := by decide +kernel
theorem dX7_addThing_67 : decode cX7_addThing 67 = .ok (.aload_n 0, 1) := by decide +kernel
theorem dX7_addThing_68 : decode cX7_addThing 68 = .ok (.getfield 22, 3) := by decide +kernel
theorem dX7_addThing_71 : decode cX7_addThing 71 = .ok (.aload_n 0, 1) := by decide +kernel
theorem dX7_addThing_72 : decode cX7_addThing 72 = .ok (.getfield 80, 3) := by decide +kernel
theorem dX7_addThing_75 : decode cX7_addThing 75 = .ok (.iload_n 3, 1) := by decide +kernel
theorem dX7_addThing_76 : decode cX7_addThing 76 = .ok (.ifCond .eq 9, 3) := by decide +kernel
theorem dX7_addThing_79 : decode cX7_addThing 79 = .ok (.getstatic 101, 3) := by decide +kernel
theorem dX7_addThing_82 : decode cX7_addThing 82 = .ok (.goto 12, 3) := by decide +kernel
theorem dX7_addThing_85 : decode cX7_addThing 85 = .ok (.aload_n 0, 1) := by decide +kernel
theorem dX7_addThing_86 : decode cX7_addThing 86 = .ok (.getfield 14, 3) := by decide +kernel
theorem dX7_addThing_89 : decode cX7_addThing 89 = .ok (.iload_n 1, 1) := by decide +kernel
theorem dX7_addThing_90 : decode cX7_addThing 90 = .ok (.iload_n 2, 1) := by decide +kernel
theorem dX7_addThing_91 : decode cX7_addThing 91 = .ok (.invokestatic 104, 3) := by decide +kernel
theorem dX7_addThing_94 : decode cX7_addThing 94 = .ok (.aastore, 1) := by decide +kernel
theorem dX7_addThing_95 : decode cX7_addThing 95 = .ok (.aload_n 0, 1) := by decide +kernel
theorem dX7_addThing_96 : decode cX7_addThing 96 = .ok (.getfield 26, 3) := by decide +kernel
theorem dX7_addThing_99 : decode cX7_addThing 99 = .ok (.aload_n 0, 1) := by decide +kernel
theorem dX7_addThing_100 : decode cX7_addThing 100 = .ok (.getfield 80, 3) := by decide +kernel
theorem dX7_addThing_103 : decode cX7_addThing 103 = .ok (.iload_n 1, 1) := by decide +kernel
theorem dX7_addThing_104 : decode cX7_addThing 104 = .ok (.iastore, 1) := by decide +kernel
theorem dX7_addThing_105 : decode cX7_addThing 105 = .ok (.aload_n 0, 1) := by decide +kernel
theorem dX7_addThing_106 : decode cX7_addThing 106 = .ok (.getfield 30, 3) := by decide +kernel
theorem dX7_addThing_109 : decode cX7_addThing 109 = .ok (.aload_n 0, 1) := by decide +kernel
theorem dX7_addThing_110 : decode cX7_addThing 110 = .ok (.getfield 80, 3) := by decide +kernel
theorem dX7_addThing_113 : decode cX7_addThing 113 = .ok (.iload_n 2, 1) := by decide +kernel
theorem dX7_addThing_114 : decode cX7_addThing 114 = .ok (.iastore, 1) := by decide +kernel
theorem dX7_addThing_115 : decode cX7_addThing 115 = .ok (.aload_n 0, 1) := by decide +kernel
theorem dX7_addThing_116 : decode cX7_addThing 116 = .ok (.getfield 33, 3) := by decide +kernel
theorem dX7_addThing_119 : decode cX7_addThing 119 = .ok (.aload_n 0, 1) := by decide +kernel
theorem dX7_addThing_120 : decode cX7_addThing 120 = .ok (.getfield 80, 3) := by decide +kernel
theorem dX7_addThing_123 : decode cX7_addThing 123 = .ok (.iload_n 3, 1) := by decide +kernel
theorem dX7_addThing_124 : decode cX7_addThing 124 = .ok (.ifCond .eq 12, 3) := by decide +kernel
theorem dX7_addThing_127 : decode cX7_addThing 127 = .ok (.aload_n 0, 1) := by decide +kernel
theorem dX7_addThing_128 : decode cX7_addThing 128 = .ok (.iload_n 1, 1) := by decide +kernel
theorem dX7_addThing_129 : decode cX7_addThing 129 = .ok (.iload_n 2, 1) := by decide +kernel
theorem dX7_addThing_130 : decode cX7_addThing 130 = .ok (.invokevirtual 108, 3) := by decide +kernel
theorem dX7_addThing_133 : decode cX7_addThing 133 = .ok (.goto 4, 3) := by decide +kernel
theorem dX7_addThing_136 : decode cX7_addThing 136 = .ok (.iconst (-1), 1) := by decide +kernel
theorem dX7_addThing_137 : decode cX7_addThing 137 = .ok (.iastore, 1) := by decide +kernel
theorem dX7_addThing_138 : decode cX7_addThing 138 = .ok (.aload_n 0, 1) := by decide +kernel
theorem dX7_addThing_139 : decode cX7_addThing 139 = .ok (.dup, 1) := by decide +kernel
theorem dX7_addThing_140 : decode cX7_addThing 140 = .ok (.getfield 80, 3) := by decide +kernel
theorem dX7_addThing_143 : decode cX7_addThing 143 = .ok (.iconst 1, 1) := by decide +kernel
theorem dX7_addThing_144 : decode cX7_addThing 144 = .ok (.iadd, 1) := by decide +kernel
theorem dX7_addThing_145 : decode cX7_addThing 145 = .ok (.putfield 80, 3) := by decide +kernel
theorem dX7_addThing_148 : decode cX7_addThing 148 = .ok (.return_, 1) := by decide +kernel
theorem dX7_numberAt_0 : decode cX7_numberAt 0 = .ok (.iload_n 2, 1) := by decide +kernel
theorem dX7_numberAt_1 : decode cX7_numberAt 1 = .ok (.iload_n 1, 1) := by decide +kernel
theorem dX7_numberAt_2 : decode cX7_numberAt 2 = .ok (.isub, 1) := by decide +kernel
theorem dX7_numberAt_3 : decode cX7_numberAt 3 = .ok (.iconst 3, 1) := by decide +kernel
theorem dX7_numberAt_4 : decode cX7_numberAt 4 = .ok (.if_icmp .le 7, 3) := by decide +kernel
theorem dX7_numberAt_7 : decode cX7_numberAt 7 = .ok (.sipush 1000, 3) := by decide +kernel
theorem dX7_numberAt_10 : decode cX7_numberAt 10 = .ok (.ireturn, 1) := by decide +kernel
theorem dX7_numberAt_11 : decode cX7_numberAt 11 = .ok (.iconst 0, 1) := by decide +kernel
theorem dX7_numberAt_12 : decode cX7_numberAt 12 = .ok (.istore_n 3, 1) := by decide +kernel
theorem dX7_numberAt_13 : decode cX7_numberAt 13 = .ok (.iload_n 1, 1) := by decide +kernel
theorem dX7_numberAt_14 : decode cX7_numberAt 14 = .ok (.istore 4, 2) := by decide +kernel
theorem dX7_numberAt_16 : decode cX7_numberAt 16 = .ok (.iload 4, 2) := by decide +kernel
theorem dX7_numberAt_18 : decode cX7_numberAt 18 = .ok (.iload_n 2, 1) := by decide +kernel
theorem dX7_numberAt_19 : decode cX7_numberAt 19 = .ok (.if_icmp .ge 27, 3) := by decide +kernel
theorem dX7_numberAt_22 : decode cX7_numberAt 22 = .ok (.iload_n 3, 1) := by decide +kernel
theorem dX7_numberAt_23 : decode cX7_numberAt 23 = .ok (.bipush 10, 2) := by decide +kernel
theorem dX7_numberAt_25 : decode cX7_numberAt 25 = .ok (.imul, 1) := by decide +kernel
theorem dX7_numberAt_26 : decode cX7_numberAt 26 = .ok (.aload_n 0, 1) := by decide +kernel
theorem dX7_numberAt_27 : decode cX7_numberAt 27 = .ok (.getfield 14, 3) := by decide +kernel
theorem dX7_numberAt_30 : decode cX7_numberAt 30 = .ok (.iload 4, 2) := by decide +kernel
theorem dX7_numberAt_32 : decode cX7_numberAt 32 = .ok (.invokevirtual 87, 3) := by decide +kernel
theorem dX7_numberAt_35 : decode cX7_numberAt 35 = .ok (.iadd, 1) := by decide +kernel
theorem dX7_numberAt_36 : decode cX7_numberAt 36 = .ok (.bipush 48, 2) := by decide +kernel
theorem dX7_numberAt_38 : decode cX7_numberAt 38 = .ok (.isub, 1) := by decide +kernel
theorem dX7_numberAt_39 : decode cX7_numberAt 39 = .ok (.istore_n 3, 1) := by decide +kernel
theorem dX7_numberAt_40 : decode cX7_numberAt 40 = .ok (.iinc 4 1, 3) := by decide +kernel
theorem dX7_numberAt_43 : decode cX7_numberAt 43 = .ok (.goto (-27), 3) := by decide +kernel
theorem dX7_numberAt_46 : decode cX7_numberAt 46 = .ok (.iload_n 3, 1) := by decide +kernel
theorem dX7_numberAt_47 : decode cX7_numberAt 47 = .ok (.ireturn, 1) := by decide +kernel
theorem dX7_isLetter_0 : decode cX7_isLetter 0 = .ok (.iload_n 0, 1) := by decide +kernel
theorem dX7_isLetter_1 : decode cX7_isLetter 1 = .ok (.bipush 97, 2) := by decide +kernel
theorem dX7_isLetter_3 : decode cX7_isLetter 3 = .ok (.if_icmp .lt 13, 3) := by decide +kernel
theorem dX7_isLetter_6 : decode cX7_isLetter 6 = .ok (.iload_n 0, 1) := by decide +kernel
theorem dX7_isLetter_7 : decode cX7_isLetter 7 = .ok (.bipush 122, 2) := by decide +kernel
theorem dX7_isLetter_9 : decode cX7_isLetter 9 = .ok (.if_icmp .gt 7, 3) := by decide +kernel
theorem dX7_isLetter_12 : decode cX7_isLetter 12 = .ok (.iconst 1, 1) := by decide +kernel
theorem dX7_isLetter_13 : decode cX7_isLetter 13 = .ok (.goto 4, 3) := by decide +kernel
theorem dX7_isLetter_16 : decode cX7_isLetter 16 = .ok (.iconst 0, 1) := by decide +kernel
theorem dX7_isLetter_17 : decode cX7_isLetter 17 = .ok (.ireturn, 1) := by decide +kernel
theorem dX7_isDigit_0 : decode cX7_isDigit 0 = .ok (.iload_n 0, 1) := by decide +kernel
theorem dX7_isDigit_1 : decode cX7_isDigit 1 = .ok (.bipush 48, 2) := by decide +kernel
theorem dX7_isDigit_3 : decode cX7_isDigit 3 = .ok (.if_icmp .lt 13, 3) := by decide +kernel
theorem dX7_isDigit_6 : decode cX7_isDigit 6 = .ok (.iload_n 0, 1) := by decide +kernel
theorem dX7_isDigit_7 : decode cX7_isDigit 7 = .ok (.bipush 57, 2) := by decide +kernel
theorem dX7_isDigit_9 : decode cX7_isDigit 9 = .ok (.if_icmp .gt 7, 3) := by decide +kernel
theorem dX7_isDigit_12 : decode cX7_isDigit 12 = .ok (.iconst 1, 1) := by decide +kernel
theorem dX7_isDigit_13 : decode cX7_isDigit 13 = .ok (.goto 4, 3) := by decide +kernel
theorem dX7_isDigit_16 : decode cX7_isDigit 16 = .ok (.iconst 0, 1) := by decide +kernel
theorem dX7_isDigit_17 : decode cX7_isDigit 17 = .ok (.ireturn, 1) := by decide +kernel
theorem dX7_advance_0 : decode cX7_advance 0 = .ok (.aload_n 0, 1) := by decide +kernel
theorem dX7_advance_1 : decode cX7_advance 1 = .ok (.dup, 1) := by decide +kernel
theorem dX7_advance_2 : decode cX7_advance 2 = .ok (.getfield 60, 3) := by decide +kernel
theorem dX7_advance_5 : decode cX7_advance 5 = .ok (.iconst 1, 1) := by decide +kernel
theorem dX7_advance_6 : decode cX7_advance 6 = .ok (.iadd, 1) := by decide +kernel
theorem dX7_advance_7 : decode cX7_advance 7 = .ok (.putfield 60, 3) := by decide +kernel
theorem dX7_advance_10 : decode cX7_advance 10 = .ok (.aload_n 0, 1) := by decide +kernel
theorem dX7_advance_11 : decode cX7_advance 11 = .ok (.getstatic 36, 3) := by decide +kernel
theorem dX7_advance_14 : decode cX7_advance 14 = .ok (.putfield 40, 3) := by decide +kernel
theorem dX7_advance_17 : decode cX7_advance 17 = .ok (.aload_n 0, 1) := by decide +kernel
theorem dX7_advance_18 : decode cX7_advance 18 = .ok (.aload_n 0, 1) := by decide +kernel
theorem dX7_advance_19 : decode cX7_advance 19 = .ok (.getfield 54, 3) := by decide +kernel
theorem dX7_advance_22 : decode cX7_advance 22 = .ok (.putfield 112, 3) := by decide +kernel
theorem dX7_advance_25 : decode cX7_advance 25 = .ok (.aload_n 0, 1) := by decide +kernel
theorem dX7_advance_26 : decode cX7_advance 26 = .ok (.aload_n 0, 1) := by decide +kernel
theorem dX7_advance_27 : decode cX7_advance 27 = .ok (.getfield 54, 3) := by decide +kernel
theorem dX7_advance_30 : decode cX7_advance 30 = .ok (.putfield 115, 3) := by decide +kernel
theorem dX7_advance_33 : decode cX7_advance 33 = .ok (.aload_n 0, 1) := by decide +kernel
theorem dX7_advance_34 : decode cX7_advance 34 = .ok (.iconst (-1), 1) := by decide +kernel
theorem dX7_advance_35 : decode cX7_advance 35 = .ok (.putfield 43, 3) := by decide +kernel
theorem dX7_advance_38 : decode cX7_advance 38 = .ok (.aload_n 0, 1) := by decide +kernel
theorem dX7_advance_39 : decode cX7_advance 39 = .ok (.getfield 60, 3) := by decide +kernel
theorem dX7_advance_42 : decode cX7_advance 42 = .ok (.ifCond .lt 126, 3) := by decide +kernel
theorem dX7_advance_45 : decode cX7_advance 45 = .ok (.aload_n 0, 1) := by decide +kernel
theorem dX7_advance_46 : decode cX7_advance 46 = .ok (.getfield 60, 3) := by decide +kernel
theorem dX7_advance_49 : decode cX7_advance 49 = .ok (.aload_n 0, 1) := by decide +kernel
theorem dX7_advance_50 : decode cX7_advance 50 = .ok (.getfield 80, 3) := by decide +kernel
theorem dX7_advance_53 : decode cX7_advance 53 = .ok (.if_icmp .ge 115, 3) := by decide +kernel
theorem dX7_advance_56 : decode cX7_advance 56 = .ok (.aload_n 0, 1) := by decide +kernel
theorem dX7_advance_57 : decode cX7_advance 57 = .ok (.getfield 60, 3) := by decide +kernel
theorem dX7_advance_60 : decode cX7_advance 60 = .ok (.aload_n 0, 1) := by decide +kernel
theorem dX7_advance_61 : decode cX7_advance 61 = .ok (.getfield 22, 3) := by decide +kernel
theorem dX7_advance_64 : decode cX7_advance 64 = .ok (.arraylength, 1) := by decide +kernel
theorem dX7_advance_65 : decode cX7_advance 65 = .ok (.if_icmp .ge 103, 3) := by decide +kernel
theorem dX7_advance_68 : decode cX7_advance 68 = .ok (.aload_n 0, 1) := by decide +kernel
theorem dX7_advance_69 : decode cX7_advance 69 = .ok (.getfield 60, 3) := by decide +kernel
theorem dX7_advance_72 : decode cX7_advance 72 = .ok (.aload_n 0, 1) := by decide +kernel
theorem dX7_advance_73 : decode cX7_advance 73 = .ok (.getfield 26, 3) := by decide +kernel
theorem dX7_advance_76 : decode cX7_advance 76 = .ok (.arraylength, 1) := by decide +kernel
theorem dX7_advance_77 : decode cX7_advance 77 = .ok (.if_icmp .ge 91, 3) := by decide +kernel
theorem dX7_advance_80 : decode cX7_advance 80 = .ok (.aload_n 0, 1) := by decide +kernel
theorem dX7_advance_81 : decode cX7_advance 81 = .ok (.getfield 60, 3) := by decide +kernel
theorem dX7_advance_84 : decode cX7_advance 84 = .ok (.aload_n 0, 1) := by decide +kernel
theorem dX7_advance_85 : decode cX7_advance 85 = .ok (.getfield 30, 3) := by decide +kernel
theorem dX7_advance_88 : decode cX7_advance 88 = .ok (.arraylength, 1) := by decide +kernel
theorem dX7_advance_89 : decode cX7_advance 89 = .ok (.if_icmp .ge 79, 3) := by decide +kernel
theorem dX7_advance_92 : decode cX7_advance 92 = .ok (.aload_n 0, 1) := by decide +kernel
theorem dX7_advance_93 : decode cX7_advance 93 = .ok (.getfield 60, 3) := by decide +kernel
theorem dX7_advance_96 : decode cX7_advance 96 = .ok (.aload_n 0, 1) := by decide +kernel
theorem dX7_advance_97 : decode cX7_advance 97 = .ok (.getfield 33, 3) := by decide +kernel
theorem dX7_advance_100 : decode cX7_advance 100 = .ok (.arraylength, 1) := by decide +kernel
theorem dX7_advance_101 : decode cX7_advance 101 = .ok (.if_icmp .ge 67, 3) := by decide +kernel
theorem dX7_advance_104 : decode cX7_advance 104 = .ok (.aload_n 0, 1) := by decide +kernel
theorem dX7_advance_105 : decode cX7_advance 105 = .ok (.getfield 22, 3) := by decide +kernel
theorem dX7_advance_108 : decode cX7_advance 108 = .ok (.aload_n 0, 1) := by decide +kernel
theorem dX7_advance_109 : decode cX7_advance 109 = .ok (.getfield 60, 3) := by decide +kernel
theorem dX7_advance_112 : decode cX7_advance 112 = .ok (.aaload, 1) := by decide +kernel
theorem dX7_advance_113 : decode cX7_advance 113 = .ok (.ifnull 55, 3) := by decide +kernel
theorem dX7_advance_116 : decode cX7_advance 116 = .ok (.aload_n 0, 1) := by decide +kernel
theorem dX7_advance_117 : decode cX7_advance 117 = .ok (.aload_n 0, 1) := by decide +kernel
theorem dX7_advance_118 : decode cX7_advance 118 = .ok (.getfield 22, 3) := by decide +kernel
theorem dX7_advance_121 : decode cX7_advance 121 = .ok (.aload_n 0, 1) := by decide +kernel
theorem dX7_advance_122 : decode cX7_advance 122 = .ok (.getfield 60, 3) := by decide +kernel
theorem dX7_advance_125 : decode cX7_advance 125 = .ok (.aaload, 1) := by decide +kernel
theorem dX7_advance_126 : decode cX7_advance 126 = .ok (.putfield 40, 3) := by decide +kernel
theorem dX7_advance_129 : decode cX7_advance 129 = .ok (.aload_n 0, 1) := by decide +kernel
theorem dX7_advance_130 : decode cX7_advance 130 = .ok (.aload_n 0, 1) := by decide +kernel
theorem dX7_advance_131 : decode cX7_advance 131 = .ok (.getfield 26, 3) := by decide +kernel
theorem dX7_advance_134 : decode cX7_advance 134 = .ok (.aload_n 0, 1) := by decide +kernel
theorem dX7_advance_135 : decode cX7_advance 135 = .ok (.getfield 60, 3) := by decide +kernel
theorem dX7_advance_138 : decode cX7_advance 138 = .ok (.iaload, 1) := by decide +kernel
theorem dX7_advance_139 : decode cX7_advance 139 = .ok (.putfield 112, 3) := by decide +kernel
theorem dX7_advance_142 : decode cX7_advance 142 = .ok (.aload_n 0, 1) := by decide +kernel
theorem dX7_advance_143 : decode cX7_advance 143 = .ok (.aload_n 0, 1) := by decide +kernel
theorem dX7_advance_144 : decode cX7_advance 144 = .ok (.getfield 30, 3) := by decide +kernel
theorem dX7_advance_147 : decode cX7_advance 147 = .ok (.aload_n 0, 1) := by decide +kernel
theorem dX7_advance_148 : decode cX7_advance 148 = .ok (.getfield 60, 3) := by decide +kernel
theorem dX7_advance_151 : decode cX7_advance 151 = .ok (.iaload, 1) := by decide +kernel
theorem dX7_advance_152 : decode cX7_advance 152 = .ok (.putfield 115, 3) := by decide +kernel
theorem dX7_advance_155 : decode cX7_advance 155 = .ok (.aload_n 0, 1) := by decide +kernel
theorem dX7_advance_156 : decode cX7_advance 156 = .ok (.aload_n 0, 1) := by decide +kernel
theorem dX7_advance_157 : decode cX7_advance 157 = .ok (.getfield 33, 3) := by decide +kernel
theorem dX7_advance_160 : decode cX7_advance 160 = .ok (.aload_n 0, 1) := by decide +kernel
theorem dX7_advance_161 : decode cX7_advance 161 = .ok (.getfield 60, 3) := by decide +kernel
theorem dX7_advance_164 : decode cX7_advance 164 = .ok (.iaload, 1) := by decide +kernel
theorem dX7_advance_165 : decode cX7_advance 165 = .ok (.putfield 43, 3) := by decide +kernel
theorem dX7_advance_168 : decode cX7_advance 168 = .ok (.return_, 1) := by decide +kernel
theorem dX7_refuse_0 : decode cX7_refuse 0 = .ok (.aload_n 0, 1) := by decide +kernel
theorem dX7_refuse_1 : decode cX7_refuse 1 = .ok (.aload_n 0, 1) := by decide +kernel
theorem dX7_refuse_2 : decode cX7_refuse 2 = .ok (.getfield 112, 3) := by decide +kernel
theorem dX7_refuse_5 : decode cX7_refuse 5 = .ok (.putfield 47, 3) := by decide +kernel
theorem dX7_refuse_8 : decode cX7_refuse 8 = .ok (.iconst 0, 1) := by decide +kernel
theorem dX7_refuse_9 : decode cX7_refuse 9 = .ok (.ireturn, 1) := by decide +kernel
theorem dX7_takes_0 : decode cX7_takes 0 = .ok (.aload_n 0, 1) := by decide +kernel
theorem dX7_takes_1 : decode cX7_takes 1 = .ok (.getfield 40, 3) := by decide +kernel
theorem dX7_takes_4 : decode cX7_takes 4 = .ok (.aload_n 1, 1) := by decide +kernel
theorem dX7_takes_5 : decode cX7_takes 5 = .ok (.if_acmp .eq 5, 3) := by decide +kernel
theorem dX7_takes_8 : decode cX7_takes 8 = .ok (.iconst 0, 1) := by decide +kernel
theorem dX7_takes_9 : decode cX7_takes 9 = .ok (.ireturn, 1) := by decide +kernel
theorem dX7_takes_10 : decode cX7_takes 10 = .ok (.aload_n 0, 1) := by decide +kernel
theorem dX7_takes_11 : decode cX7_takes 11 = .ok (.invokevirtual 63, 3) := by decide +kernel
theorem dX7_takes_14 : decode cX7_takes 14 = .ok (.iconst 1, 1) := by decide +kernel
theorem dX7_takes_15 : decode cX7_takes 15 = .ok (.ireturn, 1) := by decide +kernel
theorem dX7_needs_0 : decode cX7_needs 0 = .ok (.aload_n 0, 1) := by decide +kernel
theorem dX7_needs_1 : decode cX7_needs 1 = .ok (.getfield 40, 3) := by decide +kernel
theorem dX7_needs_4 : decode cX7_needs 4 = .ok (.aload_n 1, 1) := by decide +kernel
theorem dX7_needs_5 : decode cX7_needs 5 = .ok (.if_acmp .eq 8, 3) := by decide +kernel
theorem dX7_needs_8 : decode cX7_needs 8 = .ok (.aload_n 0, 1) := by decide +kernel
theorem dX7_needs_9 : decode cX7_needs 9 = .ok (.invokevirtual 77, 3) := by decide +kernel
theorem dX7_needs_12 : decode cX7_needs 12 = .ok (.ireturn, 1) := by decide +kernel
theorem dX7_needs_13 : decode cX7_needs 13 = .ok (.aload_n 0, 1) := by decide +kernel
theorem dX7_needs_14 : decode cX7_needs 14 = .ok (.invokevirtual 63, 3) := by decide +kernel
theorem dX7_needs_17 : decode cX7_needs 17 = .ok (.iconst 1, 1) := by decide +kernel
theorem dX7_needs_18 : decode cX7_needs 18 = .ok (.ireturn, 1) := by decide +kernel
theorem dX7_takeNumber_0 : decode cX7_takeNumber 0 = .ok (.aload_n 0, 1) := by decide +kernel
theorem dX7_takeNumber_1 : decode cX7_takeNumber 1 = .ok (.getfield 43, 3) := by decide +kernel
theorem dX7_takeNumber_4 : decode cX7_takeNumber 4 = .ok (.istore_n 2, 1) := by decide +kernel
theorem dX7_takeNumber_5 : decode cX7_takeNumber 5 = .ok (.iload_n 2, 1) := by decide +kernel
theorem dX7_takeNumber_6 : decode cX7_takeNumber 6 = .ok (.iconst (-1), 1) := by decide +kernel
theorem dX7_takeNumber_7 : decode cX7_takeNumber 7 = .ok (.if_icmp .eq 8, 3) := by decide +kernel
theorem dX7_takeNumber_10 : decode cX7_takeNumber 10 = .ok (.iload_n 2, 1) := by decide +kernel
theorem dX7_takeNumber_11 : decode cX7_takeNumber 11 = .ok (.iload_n 1, 1) := by decide +kernel
theorem dX7_takeNumber_12 : decode cX7_takeNumber 12 = .ok (.if_icmp .le 10, 3) := by decide +kernel
theorem dX7_takeNumber_15 : decode cX7_takeNumber 15 = .ok (.aload_n 0, 1) := by decide +kernel
theorem dX7_takeNumber_16 : decode cX7_takeNumber 16 = .ok (.invokevirtual 77, 3) := by decide +kernel
theorem dX7_takeNumber_19 : decode cX7_takeNumber 19 = .ok (.pop, 1) := by decide +kernel
theorem dX7_takeNumber_20 : decode cX7_takeNumber 20 = .ok (.iconst (-1), 1) := by decide +kernel
theorem dX7_takeNumber_21 : decode cX7_takeNumber 21 = .ok (.ireturn, 1) := by decide +kernel
theorem dX7_takeNumber_22 : decode cX7_takeNumber 22 = .ok (.aload_n 0, 1) := by decide +kernel
theorem dX7_takeNumber_23 : decode cX7_takeNumber 23 = .ok (.invokevirtual 63, 3) := by decide +kernel
theorem dX7_takeNumber_26 : decode cX7_takeNumber 26 = .ok (.iload_n 2, 1) := by decide +kernel
theorem dX7_takeNumber_27 : decode cX7_takeNumber 27 = .ok (.ireturn, 1) := by decide +kernel
theorem dX8_init_0 : decode cX8_init 0 = .ok (.aload_n 0, 1) := by decide +kernel
theorem dX8_init_1 : decode cX8_init 1 = .ok (.invokespecial 3, 3) := by decide +kernel
theorem dX8_init_4 : decode cX8_init 4 = .ok (.aload_n 0, 1) := by decide +kernel
theorem dX8_init_5 : decode cX8_init 5 = .ok (.new 9, 3) := by decide +kernel
theorem dX8_init_8 : decode cX8_init 8 = .ok (.dup, 1) := by decide +kernel
theorem dX8_init_9 : decode cX8_init 9 = .ok (.bipush 12, 2) := by decide +kernel
theorem dX8_init_11 : decode cX8_init 11 = .ok (.invokespecial 11, 3) := by decide +kernel
theorem dX8_init_14 : decode cX8_init 14 = .ok (.putfield 14, 3) := by decide +kernel
theorem dX8_init_17 : decode cX8_init 17 = .ok (.aload_n 0, 1) := by decide +kernel
theorem dX8_init_18 : decode cX8_init 18 = .ok (.new 9, 3) := by decide +kernel
theorem dX8_init_21 : decode cX8_init 21 = .ok (.dup, 1) := by decide +kernel
theorem dX8_init_22 : decode cX8_init 22 = .ok (.bipush 12, 2) := by decide +kernel
theorem dX8_init_24 : decode cX8_init 24 = .ok (.invokespecial 11, 3) := by decide +kernel
theorem dX8_init_27 : decode cX8_init 27 = .ok (.putfield 20, 3) := by decide +kernel
theorem dX8_init_30 : decode cX8_init 30 = .ok (.aload_n 0, 1) := by decide +kernel
theorem dX8_init_31 : decode cX8_init 31 = .ok (.new 9, 3) := by decide +kernel
theorem dX8_init_34 : decode cX8_init 34 = .ok (.dup, 1) := by decide +kernel
theorem dX8_init_35 : decode cX8_init 35 = .ok (.bipush 8, 2) := by decide +kernel
theorem dX8_init_37 : decode cX8_init 37 = .ok (.invokespecial 11, 3) := by decide +kernel
theorem dX8_init_40 : decode cX8_init 40 = .ok (.putfield 23, 3) := by decide +kernel
theorem dX8_init_43 : decode cX8_init 43 = .ok (.return_, 1) := by decide +kernel
theorem dX8_reads_0 : decode cX8_reads 0 = .ok (.aload_n 0, 1) := by decide +kernel
theorem dX8_reads_1 : decode cX8_reads 1 = .ok (.iconst 0, 1) := by decide +kernel
theorem dX8_reads_2 : decode cX8_reads 2 = .ok (.putfield 26, 3) := by decide +kernel
theorem dX8_reads_5 : decode cX8_reads 5 = .ok (.aload_n 0, 1) := by decide +kernel
theorem dX8_reads_6 : decode cX8_reads 6 = .ok (.iload_n 3, 1) := by decide +kernel
theorem dX8_reads_7 : decode cX8_reads 7 = .ok (.putfield 30, 3) := by decide +kernel
theorem dX8_reads_10 : decode cX8_reads 10 = .ok (.iload_n 2, 1) := by decide +kernel
theorem dX8_reads_11 : decode cX8_reads 11 = .ok (.bipush 36, 2) := by decide +kernel
theorem dX8_reads_13 : decode cX8_reads 13 = .ok (.if_icmp .gt 9, 3) := by decide +kernel
theorem dX8_reads_16 : decode cX8_reads 16 = .ok (.iload_n 2, 1) := by decide +kernel
theorem dX8_reads_17 : decode cX8_reads 17 = .ok (.iconst 3, 1) := by decide +kernel
theorem dX8_reads_18 : decode cX8_reads 18 = .ok (.irem, 1) := by decide +kernel
theorem dX8_reads_19 : decode cX8_reads 19 = .ok (.ifCond .eq 5, 3) := by decide +kernel
theorem dX8_reads_22 : decode cX8_reads 22 = .ok (.iconst 0, 1) := by decide +kernel
theorem dX8_reads_23 : decode cX8_reads 23 = .ok (.ireturn, 1) := by decide +kernel
theorem dX8_reads_24 : decode cX8_reads 24 = .ok (.iconst 0, 1) := by decide +kernel
theorem dX8_reads_25 : decode cX8_reads 25 = .ok (.istore 4, 2) := by decide +kernel
theorem dX8_reads_27 : decode cX8_reads 27 = .ok (.iload 4, 2) := by decide +kernel
theorem dX8_reads_29 : decode cX8_reads 29 = .ok (.iload_n 2, 1) := by decide +kernel
theorem dX8_reads_30 : decode cX8_reads 30 = .ok (.if_icmp .ge 96, 3) := by decide +kernel
theorem dX8_reads_33 : decode cX8_reads 33 = .ok (.aload_n 1, 1) := by decide +kernel
theorem dX8_reads_34 : decode cX8_reads 34 = .ok (.iload 4, 2) := by decide +kernel
theorem dX8_reads_36 : decode cX8_reads 36 = .ok (.invokevirtual 33, 3) := by decide +kernel
theorem dX8_reads_39 : decode cX8_reads 39 = .ok (.istore 5, 2) := by decide +kernel
theorem dX8_reads_41 : decode cX8_reads 41 = .ok (.aload_n 1, 1) := by decide +kernel
theorem dX8_reads_42 : decode cX8_reads 42 = .ok (.iload 4, 2) := by decide +kernel
theorem dX8_reads_44 : decode cX8_reads 44 = .ok (.iconst 1, 1) := by decide +kernel
theorem dX8_reads_45 : decode cX8_reads 45 = .ok (.iadd, 1) := by decide +kernel
theorem dX8_reads_46 : decode cX8_reads 46 = .ok (.invokevirtual 33, 3) := by decide +kernel
theorem dX8_reads_49 : decode cX8_reads 49 = .ok (.istore 6, 2) := by decide +kernel
theorem dX8_reads_51 : decode cX8_reads 51 = .ok (.iload 5, 2) := by decide +kernel
theorem dX8_reads_53 : decode cX8_reads 53 = .ok (.iload 6, 2) := by decide +kernel
theorem dX8_reads_55 : decode cX8_reads 55 = .ok (.if_icmp .gt 12, 3) := by decide +kernel
theorem dX8_reads_58 : decode cX8_reads 58 = .ok (.iload 6, 2) := by decide +kernel
theorem dX8_reads_60 : decode cX8_reads 60 = .ok (.aload_n 0, 1) := by decide +kernel
theorem dX8_reads_61 : decode cX8_reads 61 = .ok (.getfield 30, 3) := by decide +kernel
theorem dX8_reads_64 : decode cX8_reads 64 = .ok (.if_icmp .lt 5, 3) := by decide +kernel
theorem dX8_reads_67 : decode cX8_reads 67 = .ok (.iconst 0, 1) := by decide +kernel
theorem dX8_reads_68 : decode cX8_reads 68 = .ok (.ireturn, 1) := by decide +kernel
theorem dX8_reads_69 : decode cX8_reads 69 = .ok (.aload_n 0, 1) := by decide +kernel
theorem dX8_reads_70 : decode cX8_reads 70 = .ok (.getfield 14, 3) := by decide +kernel
theorem dX8_reads_73 : decode cX8_reads 73 = .ok (.aload_n 0, 1) := by decide +kernel
theorem dX8_reads_74 : decode cX8_reads 74 = .ok (.getfield 26, 3) := by decide +kernel
theorem dX8_reads_77 : decode cX8_reads 77 = .ok (.iconst 1, 1) := by decide +kernel
theorem dX8_reads_78 : decode cX8_reads 78 = .ok (.iload 6, 2) := by decide +kernel
theorem dX8_reads_80 : decode cX8_reads 80 = .ok (.iconst 1, 1) := by decide +kernel
theorem dX8_reads_81 : decode cX8_reads 81 = .ok (.iadd, 1) := by decide +kernel
theorem dX8_reads_82 : decode cX8_reads 82 = .ok (.ishl, 1) := by decide +kernel
theorem dX8_reads_83 : decode cX8_reads 83 = .ok (.iconst 1, 1) := by decide +kernel
theorem dX8_reads_84 : decode cX8_reads 84 = .ok (.iload 5, 2) := by decide +kernel
theorem dX8_reads_86 : decode cX8_reads 86 = .ok (.ishl, 1) := by decide +kernel
theorem dX8_reads_87 : decode cX8_reads 87 = .ok (.isub, 1) := by decide +kernel
theorem dX8_reads_88 : decode cX8_reads 88 = .ok (.invokevirtual 37, 3) := by decide +kernel
theorem dX8_reads_91 : decode cX8_reads 91 = .ok (.aload_n 0, 1) := by decide +kernel
theorem dX8_reads_92 : decode cX8_reads 92 = .ok (.getfield 20, 3) := by decide +kernel
theorem dX8_reads_95 : decode cX8_reads 95 = .ok (.aload_n 0, 1) := by decide +kernel
theorem dX8_reads_96 : decode cX8_reads 96 = .ok (.getfield 26, 3) := by decide +kernel
theorem dX8_reads_99 : decode cX8_reads 99 = .ok (.aload_n 1, 1) := by decide +kernel
theorem dX8_reads_100 : decode cX8_reads 100 = .ok (.iload 4, 2) := by decide +kernel
theorem dX8_reads_102 : decode cX8_reads 102 = .ok (.iconst 2, 1) := by decide +kernel
theorem dX8_reads_103 : decode cX8_reads 103 = .ok (.iadd, 1) := by decide +kernel
theorem dX8_reads_104 : decode cX8_reads 104 = .ok (.invokevirtual 33, 3) := by decide +kernel
theorem dX8_reads_107 : decode cX8_reads 107 = .ok (.invokevirtual 37, 3) := by decide +kernel
theorem dX8_reads_110 : decode cX8_reads 110 = .ok (.aload_n 0, 1) := by decide +kernel
theorem dX8_reads_111 : decode cX8_reads 111 = .ok (.dup, 1) := by decide +kernel
theorem dX8_reads_112 : decode cX8_reads 112 = .ok (.getfield 26, 3) := by decide +kernel
theorem dX8_reads_115 : decode cX8_reads 115 = .ok (.iconst 1, 1) := by decide +kernel
theorem dX8_reads_116 : decode cX8_reads 116 = .ok (.iadd, 1) := by decide +kernel
theorem dX8_reads_117 : decode cX8_reads 117 = .ok (.putfield 26, 3) := by decide +kernel
theorem dX8_reads_120 : decode cX8_reads 120 = .ok (.iinc 4 3, 3) := by decide +kernel
theorem dX8_reads_123 : decode cX8_reads 123 = .ok (.goto (-96), 3) := by decide +kernel
theorem dX8_reads_126 : decode cX8_reads 126 = .ok (.iconst 1, 1) := by decide +kernel
theorem dX8_reads_127 : decode cX8_reads 127 = .ok (.ireturn, 1) := by decide +kernel
theorem dX8_fits_0 : decode cX8_fits 0 = .ok (.iconst 0, 1) := by decide +kernel
theorem dX8_fits_1 : decode cX8_fits 1 = .ok (.istore_n 2, 1) := by decide +kernel
theorem dX8_fits_2 : decode cX8_fits 2 = .ok (.iload_n 2, 1) := by decide +kernel
theorem dX8_fits_3 : decode cX8_fits 3 = .ok (.aload_n 0, 1) := by decide +kernel
theorem dX8_fits_4 : decode cX8_fits 4 = .ok (.getfield 26, 3) := by decide +kernel
theorem dX8_fits_7 : decode cX8_fits 7 = .ok (.if_icmp .ge 35, 3) := by decide +kernel
theorem dX8_fits_10 : decode cX8_fits 10 = .ok (.iload_n 1, 1) := by decide +kernel
theorem dX8_fits_11 : decode cX8_fits 11 = .ok (.aload_n 0, 1) := by decide +kernel
theorem dX8_fits_12 : decode cX8_fits 12 = .ok (.getfield 14, 3) := by decide +kernel
theorem dX8_fits_15 : decode cX8_fits 15 = .ok (.iload_n 2, 1) := by decide +kernel
theorem dX8_fits_16 : decode cX8_fits 16 = .ok (.invokevirtual 33, 3) := by decide +kernel
theorem dX8_fits_19 : decode cX8_fits 19 = .ok (.iand, 1) := by decide +kernel
theorem dX8_fits_20 : decode cX8_fits 20 = .ok (.invokestatic 41, 3) := by decide +kernel
theorem dX8_fits_23 : decode cX8_fits 23 = .ok (.aload_n 0, 1) := by decide +kernel
theorem dX8_fits_24 : decode cX8_fits 24 = .ok (.getfield 20, 3) := by decide +kernel
theorem dX8_fits_27 : decode cX8_fits 27 = .ok (.iload_n 2, 1) := by decide +kernel
theorem dX8_fits_28 : decode cX8_fits 28 = .ok (.invokevirtual 33, 3) := by decide +kernel
theorem dX8_fits_31 : decode cX8_fits 31 = .ok (.if_icmp .eq 5, 3) := by decide +kernel
theorem dX8_fits_34 : decode cX8_fits 34 = .ok (.iconst 0, 1) := by decide +kernel
theorem dX8_fits_35 : decode cX8_fits 35 = .ok (.ireturn, 1) := by decide +kernel
theorem dX8_fits_36 : decode cX8_fits 36 = .ok (.iinc 2 1, 3) := by decide +kernel
theorem dX8_fits_39 : decode cX8_fits 39 = .ok (.goto (-37), 3) := by decide +kernel
theorem dX8_fits_42 : decode cX8_fits 42 = .ok (.iconst 1, 1) := by decide +kernel
theorem dX8_fits_43 : decode cX8_fits 43 = .ok (.ireturn, 1) := by decide +kernel
theorem dX8_fitting_0 : decode cX8_fitting 0 = .ok (.iconst 0, 1) := by decide +kernel
theorem dX8_fitting_1 : decode cX8_fitting 1 = .ok (.istore_n 1, 1) := by decide +kernel
theorem dX8_fitting_2 : decode cX8_fitting 2 = .ok (.aload_n 0, 1) := by decide +kernel
theorem dX8_fitting_3 : decode cX8_fitting 3 = .ok (.getfield 23, 3) := by decide +kernel
theorem dX8_fitting_6 : decode cX8_fitting 6 = .ok (.iconst 0, 1) := by decide +kernel
theorem dX8_fitting_7 : decode cX8_fitting 7 = .ok (.invokevirtual 46, 3) := by decide +kernel
theorem dX8_fitting_10 : decode cX8_fitting 10 = .ok (.iconst 0, 1) := by decide +kernel
theorem dX8_fitting_11 : decode cX8_fitting 11 = .ok (.istore_n 2, 1) := by decide +kernel
theorem dX8_fitting_12 : decode cX8_fitting 12 = .ok (.iload_n 2, 1) := by decide +kernel
theorem dX8_fitting_13 : decode cX8_fitting 13 = .ok (.iconst 1, 1) := by decide +kernel
theorem dX8_fitting_14 : decode cX8_fitting 14 = .ok (.aload_n 0, 1) := by decide +kernel
theorem dX8_fitting_15 : decode cX8_fitting 15 = .ok (.getfield 30, 3) := by decide +kernel
theorem dX8_fitting_18 : decode cX8_fitting 18 = .ok (.ishl, 1) := by decide +kernel
theorem dX8_fitting_19 : decode cX8_fitting 19 = .ok (.if_icmp .ge 25, 3) := by decide +kernel
theorem dX8_fitting_22 : decode cX8_fitting 22 = .ok (.aload_n 0, 1) := by decide +kernel
theorem dX8_fitting_23 : decode cX8_fitting 23 = .ok (.iload_n 2, 1) := by decide +kernel
theorem dX8_fitting_24 : decode cX8_fitting 24 = .ok (.invokevirtual 49, 3) := by decide +kernel
theorem dX8_fitting_27 : decode cX8_fitting 27 = .ok (.ifCond .eq 11, 3) := by decide +kernel
theorem dX8_fitting_30 : decode cX8_fitting 30 = .ok (.iinc 1 1, 3) := by decide +kernel
theorem dX8_fitting_33 : decode cX8_fitting 33 = .ok (.aload_n 0, 1) := by decide +kernel
theorem dX8_fitting_34 : decode cX8_fitting 34 = .ok (.iload_n 2, 1) := by decide +kernel
theorem dX8_fitting_35 : decode cX8_fitting 35 = .ok (.invokevirtual 53, 3) := by decide +kernel
theorem dX8_fitting_38 : decode cX8_fitting 38 = .ok (.iinc 2 1, 3) := by decide +kernel
theorem dX8_fitting_41 : decode cX8_fitting 41 = .ok (.goto (-29), 3) := by decide +kernel
theorem dX8_fitting_44 : decode cX8_fitting 44 = .ok (.iload_n 1, 1) := by decide +kernel
theorem dX8_fitting_45 : decode cX8_fitting 45 = .ok (.ireturn, 1) := by decide +kernel
theorem dX8_addMembers_0 : decode cX8_addMembers 0 = .ok (.iconst 0, 1) := by decide +kernel
theorem dX8_addMembers_1 : decode cX8_addMembers 1 = .ok (.istore_n 2, 1) := by decide +kernel
theorem dX8_addMembers_2 : decode cX8_addMembers 2 = .ok (.iload_n 2, 1) := by decide +kernel
theorem dX8_addMembers_3 : decode cX8_addMembers 3 = .ok (.aload_n 0, 1) := by decide +kernel
theorem dX8_addMembers_4 : decode cX8_addMembers 4 = .ok (.getfield 30, 3) := by decide +kernel
theorem dX8_addMembers_7 : decode cX8_addMembers 7 = .ok (.if_icmp .ge 35, 3) := by decide +kernel
theorem dX8_addMembers_10 : decode cX8_addMembers 10 = .ok (.iload_n 1, 1) := by decide +kernel
theorem dX8_addMembers_11 : decode cX8_addMembers 11 = .ok (.iload_n 2, 1) := by decide +kernel
theorem dX8_addMembers_12 : decode cX8_addMembers 12 = .ok (.invokestatic 56, 3) := by decide +kernel
theorem dX8_addMembers_15 : decode cX8_addMembers 15 = .ok (.ifCond .eq 21, 3) := by decide +kernel
theorem dX8_addMembers_18 : decode cX8_addMembers 18 = .ok (.aload_n 0, 1) := by decide +kernel
theorem dX8_addMembers_19 : decode cX8_addMembers 19 = .ok (.getfield 23, 3) := by decide +kernel
theorem dX8_addMembers_22 : decode cX8_addMembers 22 = .ok (.iload_n 2, 1) := by decide +kernel
theorem dX8_addMembers_23 : decode cX8_addMembers 23 = .ok (.aload_n 0, 1) := by decide +kernel
theorem dX8_addMembers_24 : decode cX8_addMembers 24 = .ok (.getfield 23, 3) := by decide +kernel
theorem dX8_addMembers_27 : decode cX8_addMembers 27 = .ok (.iload_n 2, 1) := by decide +kernel
theorem dX8_addMembers_28 : decode cX8_addMembers 28 = .ok (.invokevirtual 33, 3) := by decide +kernel
theorem dX8_addMembers_31 : decode cX8_addMembers 31 = .ok (.iconst 1, 1) := by decide +kernel
theorem dX8_addMembers_32 : decode cX8_addMembers 32 = .ok (.iadd, 1) := by decide +kernel
theorem dX8_addMembers_33 : decode cX8_addMembers 33 = .ok (.invokevirtual 37, 3) := by decide +kernel
theorem dX8_addMembers_36 : decode cX8_addMembers 36 = .ok (.iinc 2 1, 3) := by decide +kernel
theorem dX8_addMembers_39 : decode cX8_addMembers 39 = .ok (.goto (-37), 3) := by decide +kernel
theorem dX8_addMembers_42 : decode cX8_addMembers 42 = .ok (.return_, 1) := by decide +kernel
theorem dX8_inAll_0 : decode cX8_inAll 0 = .ok (.aload_n 0, 1) := by decide +kernel
theorem dX8_inAll_1 : decode cX8_inAll 1 = .ok (.invokevirtual 60, 3) := by decide +kernel
theorem dX8_inAll_4 : decode cX8_inAll 4 = .ok (.istore_n 1, 1) := by decide +kernel
theorem dX8_inAll_5 : decode cX8_inAll 5 = .ok (.iconst 0, 1) := by decide +kernel
theorem dX8_inAll_6 : decode cX8_inAll 6 = .ok (.istore_n 2, 1) := by decide +kernel
theorem dX8_inAll_7 : decode cX8_inAll 7 = .ok (.iconst 0, 1) := by decide +kernel
theorem dX8_inAll_8 : decode cX8_inAll 8 = .ok (.istore_n 3, 1) := by decide +kernel
theorem dX8_inAll_9 : decode cX8_inAll 9 = .ok (.iload_n 3, 1) := by decide +kernel
theorem dX8_inAll_10 : decode cX8_inAll 10 = .ok (.aload_n 0, 1) := by decide +kernel
theorem dX8_inAll_11 : decode cX8_inAll 11 = .ok (.getfield 30, 3) := by decide +kernel
theorem dX8_inAll_14 : decode cX8_inAll 14 = .ok (.if_icmp .ge 31, 3) := by decide +kernel
theorem dX8_inAll_17 : decode cX8_inAll 17 = .ok (.iload_n 1, 1) := by decide +kernel
theorem dX8_inAll_18 : decode cX8_inAll 18 = .ok (.ifCond .le 27, 3) := by decide +kernel
theorem dX8_inAll_21 : decode cX8_inAll 21 = .ok (.aload_n 0, 1) := by decide +kernel
theorem dX8_inAll_22 : decode cX8_inAll 22 = .ok (.getfield 23, 3) := by decide +kernel
theorem dX8_inAll_25 : decode cX8_inAll 25 = .ok (.iload_n 3, 1) := by decide +kernel
theorem dX8_inAll_26 : decode cX8_inAll 26 = .ok (.invokevirtual 33, 3) := by decide +kernel
theorem dX8_inAll_29 : decode cX8_inAll 29 = .ok (.iload_n 1, 1) := by decide +kernel
theorem dX8_inAll_30 : decode cX8_inAll 30 = .ok (.if_icmp .ne 9, 3) := by decide +kernel
theorem dX8_inAll_33 : decode cX8_inAll 33 = .ok (.iload_n 2, 1) := by decide +kernel
theorem dX8_inAll_34 : decode cX8_inAll 34 = .ok (.iconst 1, 1) := by decide +kernel
theorem dX8_inAll_35 : decode cX8_inAll 35 = .ok (.iload_n 3, 1) := by decide +kernel
theorem dX8_inAll_36 : decode cX8_inAll 36 = .ok (.ishl, 1) := by decide +kernel
theorem dX8_inAll_37 : decode cX8_inAll 37 = .ok (.ior, 1) := by decide +kernel
theorem dX8_inAll_38 : decode cX8_inAll 38 = .ok (.istore_n 2, 1) := by decide +kernel
theorem dX8_inAll_39 : decode cX8_inAll 39 = .ok (.iinc 3 1, 3) := by decide +kernel
theorem dX8_inAll_42 : decode cX8_inAll 42 = .ok (.goto (-33), 3) := by decide +kernel
theorem dX8_inAll_45 : decode cX8_inAll 45 = .ok (.iload_n 2, 1) := by decide +kernel
theorem dX8_inAll_46 : decode cX8_inAll 46 = .ok (.ireturn, 1) := by decide +kernel
theorem dX8_bestParter_0 : decode cX8_bestParter 0 = .ok (.aload_n 0, 1) := by decide +kernel
theorem dX8_bestParter_1 : decode cX8_bestParter 1 = .ok (.invokevirtual 60, 3) := by decide +kernel
theorem dX8_bestParter_4 : decode cX8_bestParter 4 = .ok (.istore_n 1, 1) := by decide +kernel
theorem dX8_bestParter_5 : decode cX8_bestParter 5 = .ok (.iconst (-1), 1) := by decide +kernel
theorem dX8_bestParter_6 : decode cX8_bestParter 6 = .ok (.istore_n 2, 1) := by decide +kernel
theorem dX8_bestParter_7 : decode cX8_bestParter 7 = .ok (.iload_n 1, 1) := by decide +kernel
theorem dX8_bestParter_8 : decode cX8_bestParter 8 = .ok (.istore_n 3, 1) := by decide +kernel
theorem dX8_bestParter_9 : decode cX8_bestParter 9 = .ok (.iconst 0, 1) := by decide +kernel
theorem dX8_bestParter_10 : decode cX8_bestParter 10 = .ok (.istore 4, 2) := by decide +kernel
theorem dX8_bestParter_12 : decode cX8_bestParter 12 = .ok (.iload 4, 2) := by decide +kernel
theorem dX8_bestParter_14 : decode cX8_bestParter 14 = .ok (.aload_n 0, 1) := by decide +kernel
theorem dX8_bestParter_15 : decode cX8_bestParter 15 = .ok (.getfield 30, 3) := by decide +kernel
theorem dX8_bestParter_18 : decode cX8_bestParter 18 = .ok (.if_icmp .ge 53, 3) := by decide +kernel
theorem dX8_bestParter_21 : decode cX8_bestParter 21 = .ok (.iload_n 1, 1) := by decide +kernel
theorem dX8_bestParter_22 : decode cX8_bestParter 22 = .ok (.iconst 1, 1) := by decide +kernel
theorem dX8_bestParter_23 : decode cX8_bestParter 23 = .ok (.if_icmp .le 48, 3) := by decide +kernel
theorem dX8_bestParter_26 : decode cX8_bestParter 26 = .ok (.aload_n 0, 1) := by decide +kernel
theorem dX8_bestParter_27 : decode cX8_bestParter 27 = .ok (.getfield 23, 3) := by decide +kernel
theorem dX8_bestParter_30 : decode cX8_bestParter 30 = .ok (.iload 4, 2) := by decide +kernel
theorem dX8_bestParter_32 : decode cX8_bestParter 32 = .ok (.invokevirtual 33, 3) := by decide +kernel
theorem dX8_bestParter_35 : decode cX8_bestParter 35 = .ok (.istore 5, 2) := by decide +kernel
theorem dX8_bestParter_37 : decode cX8_bestParter 37 = .ok (.iload 5, 2) := by decide +kernel
theorem dX8_bestParter_39 : decode cX8_bestParter 39 = .ok (.iload_n 1, 1) := by decide +kernel
theorem dX8_bestParter_40 : decode cX8_bestParter 40 = .ok (.iload 5, 2) := by decide +kernel
theorem dX8_bestParter_42 : decode cX8_bestParter 42 = .ok (.isub, 1) := by decide +kernel
theorem dX8_bestParter_43 : decode cX8_bestParter 43 = .ok (.invokestatic 64, 3) := by decide +kernel
theorem dX8_bestParter_46 : decode cX8_bestParter 46 = .ok (.istore 6, 2) := by decide +kernel
theorem dX8_bestParter_48 : decode cX8_bestParter 48 = .ok (.iload_n 2, 1) := by decide +kernel
theorem dX8_bestParter_49 : decode cX8_bestParter 49 = .ok (.iconst (-1), 1) := by decide +kernel
theorem dX8_bestParter_50 : decode cX8_bestParter 50 = .ok (.if_icmp .eq 9, 3) := by decide +kernel
theorem dX8_bestParter_53 : decode cX8_bestParter 53 = .ok (.iload 6, 2) := by decide +kernel
theorem dX8_bestParter_55 : decode cX8_bestParter 55 = .ok (.iload_n 3, 1) := by decide +kernel
theorem dX8_bestParter_56 : decode cX8_bestParter 56 = .ok (.if_icmp .ge 9, 3) := by decide +kernel
theorem dX8_bestParter_59 : decode cX8_bestParter 59 = .ok (.iload 4, 2) := by decide +kernel
theorem dX8_bestParter_61 : decode cX8_bestParter 61 = .ok (.istore_n 2, 1) := by decide +kernel
theorem dX8_bestParter_62 : decode cX8_bestParter 62 = .ok (.iload 6, 2) := by decide +kernel
theorem dX8_bestParter_64 : decode cX8_bestParter 64 = .ok (.istore_n 3, 1) := by decide +kernel
theorem dX8_bestParter_65 : decode cX8_bestParter 65 = .ok (.iinc 4 1, 3) := by decide +kernel
theorem dX8_bestParter_68 : decode cX8_bestParter 68 = .ok (.goto (-56), 3) := by decide +kernel
theorem dX8_bestParter_71 : decode cX8_bestParter 71 = .ok (.iload_n 2, 1) := by decide +kernel
theorem dX8_bestParter_72 : decode cX8_bestParter 72 = .ok (.ireturn, 1) := by decide +kernel
theorem dX9_init_0 : decode cX9_init 0 = .ok (.aload_n 0, 1) := by decide +kernel
theorem dX9_init_1 : decode cX9_init 1 = .ok (.invokespecial 3, 3) := by decide +kernel
theorem dX9_init_4 : decode cX9_init 4 = .ok (.aload_n 0, 1) := by decide +kernel
theorem dX9_init_5 : decode cX9_init 5 = .ok (.new 9, 3) := by decide +kernel
theorem dX9_init_8 : decode cX9_init 8 = .ok (.dup, 1) := by decide +kernel
theorem dX9_init_9 : decode cX9_init 9 = .ok (.bipush 8, 2) := by decide +kernel
theorem dX9_init_11 : decode cX9_init 11 = .ok (.invokespecial 11, 3) := by decide +kernel
theorem dX9_init_14 : decode cX9_init 14 = .ok (.putfield 14, 3) := by decide +kernel
theorem dX9_init_17 : decode cX9_init 17 = .ok (.aload_n 0, 1) := by decide +kernel
theorem dX9_init_18 : decode cX9_init 18 = .ok (.new 9, 3) := by decide +kernel
theorem dX9_init_21 : decode cX9_init 21 = .ok (.dup, 1) := by decide +kernel
theorem dX9_init_22 : decode cX9_init 22 = .ok (.bipush 8, 2) := by decide +kernel
theorem dX9_init_24 : decode cX9_init 24 = .ok (.invokespecial 11, 3) := by decide +kernel
theorem dX9_init_27 : decode cX9_init 27 = .ok (.putfield 20, 3) := by decide +kernel
theorem dX9_init_30 : decode cX9_init 30 = .ok (.aload_n 0, 1) := by decide +kernel
theorem dX9_init_31 : decode cX9_init 31 = .ok (.new 9, 3) := by decide +kernel
theorem dX9_init_34 : decode cX9_init 34 = .ok (.dup, 1) := by decide +kernel
theorem dX9_init_35 : decode cX9_init 35 = .ok (.bipush 8, 2) := by decide +kernel
theorem dX9_init_37 : decode cX9_init 37 = .ok (.invokespecial 11, 3) := by decide +kernel
theorem dX9_init_40 : decode cX9_init 40 = .ok (.putfield 23, 3) := by decide +kernel
theorem dX9_init_43 : decode cX9_init 43 = .ok (.aload_n 0, 1) := by decide +kernel
theorem dX9_init_44 : decode cX9_init 44 = .ok (.new 9, 3) := by decide +kernel
theorem dX9_init_47 : decode cX9_init 47 = .ok (.dup, 1) := by decide +kernel
theorem dX9_init_48 : decode cX9_init 48 = .ok (.bipush 64, 2) := by decide +kernel
theorem dX9_init_50 : decode cX9_init 50 = .ok (.invokespecial 11, 3) := by decide +kernel
theorem dX9_init_53 : decode cX9_init 53 = .ok (.putfield 26, 3) := by decide +kernel
theorem dX9_init_56 : decode cX9_init 56 = .ok (.aload_n 0, 1) := by decide +kernel
theorem dX9_init_57 : decode cX9_init 57 = .ok (.new 9, 3) := by decide +kernel
theorem dX9_init_60 : decode cX9_init 60 = .ok (.dup, 1) := by decide +kernel
theorem dX9_init_61 : decode cX9_init 61 = .ok (.bipush 40, 2) := by decide +kernel
theorem dX9_init_63 : decode cX9_init 63 = .ok (.invokespecial 11, 3) := by decide +kernel
theorem dX9_init_66 : decode cX9_init 66 = .ok (.putfield 29, 3) := by decide +kernel
theorem dX9_init_69 : decode cX9_init 69 = .ok (.aload_n 0, 1) := by decide +kernel
theorem dX9_init_70 : decode cX9_init 70 = .ok (.new 9, 3) := by decide +kernel
theorem dX9_init_73 : decode cX9_init 73 = .ok (.dup, 1) := by decide +kernel
theorem dX9_init_74 : decode cX9_init 74 = .ok (.bipush 20, 2) := by decide +kernel
theorem dX9_init_76 : decode cX9_init 76 = .ok (.invokespecial 11, 3) := by decide +kernel
theorem dX9_init_79 : decode cX9_init 79 = .ok (.putfield 32, 3) := by decide +kernel
theorem dX9_init_82 : decode cX9_init 82 = .ok (.aload_n 0, 1) := by decide +kernel
theorem dX9_init_83 : decode cX9_init 83 = .ok (.new 9, 3) := by decide +kernel
theorem dX9_init_86 : decode cX9_init 86 = .ok (.dup, 1) := by decide +kernel
theorem dX9_init_87 : decode cX9_init 87 = .ok (.bipush 20, 2) := by decide +kernel
theorem dX9_init_89 : decode cX9_init 89 = .ok (.invokespecial 11, 3) := by decide +kernel
theorem dX9_init_92 : decode cX9_init 92 = .ok (.putfield 35, 3) := by decide +kernel
theorem dX9_init_95 : decode cX9_init 95 = .ok (.aload_n 0, 1) := by decide +kernel
theorem dX9_init_96 : decode cX9_init 96 = .ok (.new 9, 3) := by decide +kernel
theorem dX9_init_99 : decode cX9_init 99 = .ok (.dup, 1) := by decide +kernel
theorem dX9_init_100 : decode cX9_init 100 = .ok (.sipush 240, 3) := by decide +kernel
theorem dX9_init_103 : decode cX9_init 103 = .ok (.invokespecial 11, 3) := by decide +kernel
theorem dX9_init_106 : decode cX9_init 106 = .ok (.putfield 38, 3) := by decide +kernel
theorem dX9_init_109 : decode cX9_init 109 = .ok (.aload_n 0, 1) := by decide +kernel
theorem dX9_init_110 : decode cX9_init 110 = .ok (.bipush 20, 2) := by decide +kernel
theorem dX9_init_112 : decode cX9_init 112 = .ok (.putfield 41, 3) := by decide +kernel
theorem dX9_init_115 : decode cX9_init 115 = .ok (.aload_n 0, 1) := by decide +kernel
theorem dX9_init_116 : decode cX9_init 116 = .ok (.iconst 1, 1) := by decide +kernel
theorem dX9_init_117 : decode cX9_init 117 = .ok (.putfield 45, 3) := by decide +kernel
theorem dX9_init_120 : decode cX9_init 120 = .ok (.aload_n 0, 1) := by decide +kernel
theorem dX9_init_121 : decode cX9_init 121 = .ok (.bipush 10, 2) := by decide +kernel
theorem dX9_init_123 : decode cX9_init 123 = .ok (.putfield 48, 3) := by decide +kernel
theorem dX9_init_126 : decode cX9_init 126 = .ok (.aload_n 0, 1) := by decide +kernel
theorem dX9_init_127 : decode cX9_init 127 = .ok (.iconst 1, 1) := by decide +kernel
theorem dX9_init_128 : decode cX9_init 128 = .ok (.putfield 51, 3) := by decide +kernel
theorem dX9_init_131 : decode cX9_init 131 = .ok (.return_, 1) := by decide +kernel
theorem dX9_copyAll_0 : decode cX9_copyAll 0 = .ok (.aload_n 0, 1) := by decide +kernel
theorem dX9_copyAll_1 : decode cX9_copyAll 1 = .ok (.aload_n 1, 1) := by decide +kernel
theorem dX9_copyAll_2 : decode cX9_copyAll 2 = .ok (.invokevirtual 54, 3) := by decide +kernel
theorem dX9_copyAll_5 : decode cX9_copyAll 5 = .ok (.aload_n 0, 1) := by decide +kernel
theorem dX9_copyAll_6 : decode cX9_copyAll 6 = .ok (.getfield 20, 3) := by decide +kernel
theorem dX9_copyAll_9 : decode cX9_copyAll 9 = .ok (.aload_n 1, 1) := by decide +kernel
theorem dX9_copyAll_10 : decode cX9_copyAll 10 = .ok (.getfield 20, 3) := by decide +kernel
theorem dX9_copyAll_13 : decode cX9_copyAll 13 = .ok (.invokevirtual 58, 3) := by decide +kernel
theorem dX9_copyAll_16 : decode cX9_copyAll 16 = .ok (.aload_n 0, 1) := by decide +kernel
theorem dX9_copyAll_17 : decode cX9_copyAll 17 = .ok (.getfield 23, 3) := by decide +kernel
theorem dX9_copyAll_20 : decode cX9_copyAll 20 = .ok (.aload_n 1, 1) := by decide +kernel
theorem dX9_copyAll_21 : decode cX9_copyAll 21 = .ok (.getfield 23, 3) := by decide +kernel
theorem dX9_copyAll_24 : decode cX9_copyAll 24 = .ok (.invokevirtual 58, 3) := by decide +kernel
theorem dX9_copyAll_27 : decode cX9_copyAll 27 = .ok (.aload_n 0, 1) := by decide +kernel
theorem dX9_copyAll_28 : decode cX9_copyAll 28 = .ok (.getfield 26, 3) := by decide +kernel
theorem dX9_copyAll_31 : decode cX9_copyAll 31 = .ok (.aload_n 1, 1) := by decide +kernel
theorem dX9_copyAll_32 : decode cX9_copyAll 32 = .ok (.getfield 26, 3) := by decide +kernel
theorem dX9_copyAll_35 : decode cX9_copyAll 35 = .ok (.invokevirtual 58, 3) := by decide +kernel
theorem dX9_copyAll_38 : decode cX9_copyAll 38 = .ok (.aload_n 0, 1) := by decide +kernel
theorem dX9_copyAll_39 : decode cX9_copyAll 39 = .ok (.getfield 29, 3) := by decide +kernel
theorem dX9_copyAll_42 : decode cX9_copyAll 42 = .ok (.aload_n 1, 1) := by decide +kernel
theorem dX9_copyAll_43 : decode cX9_copyAll 43 = .ok (.getfield 29, 3) := by decide +kernel
theorem dX9_copyAll_46 : decode cX9_copyAll 46 = .ok (.invokevirtual 58, 3) := by decide +kernel
theorem dX9_copyAll_49 : decode cX9_copyAll 49 = .ok (.aload_n 0, 1) := by decide +kernel
theorem dX9_copyAll_50 : decode cX9_copyAll 50 = .ok (.getfield 32, 3) := by decide +kernel
theorem dX9_copyAll_53 : decode cX9_copyAll 53 = .ok (.aload_n 1, 1) := by decide +kernel
theorem dX9_copyAll_54 : decode cX9_copyAll 54 = .ok (.getfield 32, 3) := by decide +kernel
theorem dX9_copyAll_57 : decode cX9_copyAll 57 = .ok (.invokevirtual 58, 3) := by decide +kernel
theorem dX9_copyAll_60 : decode cX9_copyAll 60 = .ok (.aload_n 0, 1) := by decide +kernel
theorem dX9_copyAll_61 : decode cX9_copyAll 61 = .ok (.getfield 35, 3) := by decide +kernel
theorem dX9_copyAll_64 : decode cX9_copyAll 64 = .ok (.aload_n 1, 1) := by decide +kernel
theorem dX9_copyAll_65 : decode cX9_copyAll 65 = .ok (.getfield 35, 3) := by decide +kernel
theorem dX9_copyAll_68 : decode cX9_copyAll 68 = .ok (.invokevirtual 58, 3) := by decide +kernel
theorem dX9_copyAll_71 : decode cX9_copyAll 71 = .ok (.aload_n 0, 1) := by decide +kernel
theorem dX9_copyAll_72 : decode cX9_copyAll 72 = .ok (.getfield 38, 3) := by decide +kernel
theorem dX9_copyAll_75 : decode cX9_copyAll 75 = .ok (.aload_n 1, 1) := by decide +kernel
theorem dX9_copyAll_76 : decode cX9_copyAll 76 = .ok (.getfield 38, 3) := by decide +kernel
theorem dX9_copyAll_79 : decode cX9_copyAll 79 = .ok (.invokevirtual 58, 3) := by decide +kernel
theorem dX9_copyAll_82 : decode cX9_copyAll 82 = .ok (.aload_n 0, 1) := by decide +kernel
theorem dX9_copyAll_83 : decode cX9_copyAll 83 = .ok (.aload_n 1, 1) := by decide +kernel
theorem dX9_copyAll_84 : decode cX9_copyAll 84 = .ok (.getfield 62, 3) := by decide +kernel
theorem dX9_copyAll_87 : decode cX9_copyAll 87 = .ok (.putfield 62, 3) := by decide +kernel
theorem dX9_copyAll_90 : decode cX9_copyAll 90 = .ok (.aload_n 0, 1) := by decide +kernel
theorem dX9_copyAll_91 : decode cX9_copyAll 91 = .ok (.aload_n 1, 1) := by decide +kernel
theorem dX9_copyAll_92 : decode cX9_copyAll 92 = .ok (.getfield 65, 3) := by decide +kernel
theorem dX9_copyAll_95 : decode cX9_copyAll 95 = .ok (.putfield 65, 3) := by decide +kernel
theorem dX9_copyAll_98 : decode cX9_copyAll 98 = .ok (.aload_n 0, 1) := by decide +kernel
theorem dX9_copyAll_99 : decode cX9_copyAll 99 = .ok (.aload_n 1, 1) := by decide +kernel
theorem dX9_copyAll_100 : decode cX9_copyAll 100 = .ok (.getfield 68, 3) := by decide +kernel
theorem dX9_copyAll_103 : decode cX9_copyAll 103 = .ok (.putfield 68, 3) := by decide +kernel
theorem dX9_copyAll_106 : decode cX9_copyAll 106 = .ok (.aload_n 0, 1) := by decide +kernel
theorem dX9_copyAll_107 : decode cX9_copyAll 107 = .ok (.aload_n 1, 1) := by decide +kernel
theorem dX9_copyAll_108 : decode cX9_copyAll 108 = .ok (.getfield 41, 3) := by decide +kernel
theorem dX9_copyAll_111 : decode cX9_copyAll 111 = .ok (.putfield 41, 3) := by decide +kernel
theorem dX9_copyAll_114 : decode cX9_copyAll 114 = .ok (.aload_n 0, 1) := by decide +kernel
theorem dX9_copyAll_115 : decode cX9_copyAll 115 = .ok (.aload_n 1, 1) := by decide +kernel
theorem dX9_copyAll_116 : decode cX9_copyAll 116 = .ok (.getfield 45, 3) := by decide +kernel
theorem dX9_copyAll_119 : decode cX9_copyAll 119 = .ok (.putfield 45, 3) := by decide +kernel
theorem dX9_copyAll_122 : decode cX9_copyAll 122 = .ok (.aload_n 0, 1) := by decide +kernel
theorem dX9_copyAll_123 : decode cX9_copyAll 123 = .ok (.aload_n 1, 1) := by decide +kernel
theorem dX9_copyAll_124 : decode cX9_copyAll 124 = .ok (.getfield 48, 3) := by decide +kernel
theorem dX9_copyAll_127 : decode cX9_copyAll 127 = .ok (.putfield 48, 3) := by decide +kernel
theorem dX9_copyAll_130 : decode cX9_copyAll 130 = .ok (.aload_n 0, 1) := by decide +kernel
theorem dX9_copyAll_131 : decode cX9_copyAll 131 = .ok (.aload_n 1, 1) := by decide +kernel
theorem dX9_copyAll_132 : decode cX9_copyAll 132 = .ok (.getfield 71, 3) := by decide +kernel
theorem dX9_copyAll_135 : decode cX9_copyAll 135 = .ok (.putfield 71, 3) := by decide +kernel
theorem dX9_copyAll_138 : decode cX9_copyAll 138 = .ok (.aload_n 0, 1) := by decide +kernel
theorem dX9_copyAll_139 : decode cX9_copyAll 139 = .ok (.aload_n 1, 1) := by decide +kernel
theorem dX9_copyAll_140 : decode cX9_copyAll 140 = .ok (.getfield 74, 3) := by decide +kernel
theorem dX9_copyAll_143 : decode cX9_copyAll 143 = .ok (.putfield 74, 3) := by decide +kernel
theorem dX9_copyAll_146 : decode cX9_copyAll 146 = .ok (.aload_n 0, 1) := by decide +kernel
theorem dX9_copyAll_147 : decode cX9_copyAll 147 = .ok (.aload_n 1, 1) := by decide +kernel
theorem dX9_copyAll_148 : decode cX9_copyAll 148 = .ok (.getfield 51, 3) := by decide +kernel
theorem dX9_copyAll_151 : decode cX9_copyAll 151 = .ok (.putfield 51, 3) := by decide +kernel
theorem dX9_copyAll_154 : decode cX9_copyAll 154 = .ok (.aload_n 0, 1) := by decide +kernel
theorem dX9_copyAll_155 : decode cX9_copyAll 155 = .ok (.aload_n 1, 1) := by decide +kernel
theorem dX9_copyAll_156 : decode cX9_copyAll 156 = .ok (.getfield 77, 3) := by decide +kernel
theorem dX9_copyAll_159 : decode cX9_copyAll 159 = .ok (.putfield 77, 3) := by decide +kernel
theorem dX9_copyAll_162 : decode cX9_copyAll 162 = .ok (.aload_n 0, 1) := by decide +kernel
theorem dX9_copyAll_163 : decode cX9_copyAll 163 = .ok (.aload_n 1, 1) := by decide +kernel
theorem dX9_copyAll_164 : decode cX9_copyAll 164 = .ok (.getfield 80, 3) := by decide +kernel
theorem dX9_copyAll_167 : decode cX9_copyAll 167 = .ok (.putfield 80, 3) := by decide +kernel
theorem dX9_copyAll_170 : decode cX9_copyAll 170 = .ok (.return_, 1) := by decide +kernel
theorem dX9_copyPurses_0 : decode cX9_copyPurses 0 = .ok (.aload_n 0, 1) := by decide +kernel
theorem dX9_copyPurses_1 : decode cX9_copyPurses 1 = .ok (.getfield 14, 3) := by decide +kernel
theorem dX9_copyPurses_4 : decode cX9_copyPurses 4 = .ok (.aload_n 1, 1) := by decide +kernel
theorem dX9_copyPurses_5 : decode cX9_copyPurses 5 = .ok (.getfield 14, 3) := by decide +kernel
theorem dX9_copyPurses_8 : decode cX9_copyPurses 8 = .ok (.invokevirtual 58, 3) := by decide +kernel
theorem dX9_copyPurses_11 : decode cX9_copyPurses 11 = .ok (.aload_n 0, 1) := by decide +kernel
theorem dX9_copyPurses_12 : decode cX9_copyPurses 12 = .ok (.aload_n 1, 1) := by decide +kernel
theorem dX9_copyPurses_13 : decode cX9_copyPurses 13 = .ok (.getfield 83, 3) := by decide +kernel
theorem dX9_copyPurses_16 : decode cX9_copyPurses 16 = .ok (.putfield 83, 3) := by decide +kernel
theorem dX9_copyPurses_19 : decode cX9_copyPurses 19 = .ok (.return_, 1) := by decide +kernel
theorem dX9_hasPerson_0 : decode cX9_hasPerson 0 = .ok (.iload_n 1, 1) := by decide +kernel
theorem dX9_hasPerson_1 : decode cX9_hasPerson 1 = .ok (.ifCond .lt 15, 3) := by decide +kernel
theorem dX9_hasPerson_4 : decode cX9_hasPerson 4 = .ok (.iload_n 1, 1) := by decide +kernel
theorem dX9_hasPerson_5 : decode cX9_hasPerson 5 = .ok (.aload_n 0, 1) := by decide +kernel
theorem dX9_hasPerson_6 : decode cX9_hasPerson 6 = .ok (.getfield 62, 3) := by decide +kernel
theorem dX9_hasPerson_9 : decode cX9_hasPerson 9 = .ok (.if_icmp .ge 7, 3) := by decide +kernel
theorem dX9_hasPerson_12 : decode cX9_hasPerson 12 = .ok (.iconst 1, 1) := by decide +kernel
theorem dX9_hasPerson_13 : decode cX9_hasPerson 13 = .ok (.goto 4, 3) := by decide +kernel
theorem dX9_hasPerson_16 : decode cX9_hasPerson 16 = .ok (.iconst 0, 1) := by decide +kernel
theorem dX9_hasPerson_17 : decode cX9_hasPerson 17 = .ok (.ireturn, 1) := by decide +kernel
theorem dX9_addPerson_0 : decode cX9_addPerson 0 = .ok (.aload_n 0, 1) := by decide +kernel
theorem dX9_addPerson_1 : decode cX9_addPerson 1 = .ok (.getfield 14, 3) := by decide +kernel
theorem dX9_addPerson_4 : decode cX9_addPerson 4 = .ok (.aload_n 0, 1) := by decide +kernel
theorem dX9_addPerson_5 : decode cX9_addPerson 5 = .ok (.getfield 62, 3) := by decide +kernel
theorem dX9_addPerson_8 : decode cX9_addPerson 8 = .ok (.iload_n 1, 1) := by decide +kernel
theorem dX9_addPerson_9 : decode cX9_addPerson 9 = .ok (.invokevirtual 86, 3) := by decide +kernel
theorem dX9_addPerson_12 : decode cX9_addPerson 12 = .ok (.aload_n 0, 1) := by decide +kernel
theorem dX9_addPerson_13 : decode cX9_addPerson 13 = .ok (.getfield 23, 3) := by decide +kernel
theorem dX9_addPerson_16 : decode cX9_addPerson 16 = .ok (.aload_n 0, 1) := by decide +kernel
theorem dX9_addPerson_17 : decode cX9_addPerson 17 = .ok (.getfield 62, 3) := by decide +kernel
theorem dX9_addPerson_20 : decode cX9_addPerson 20 = .ok (.iconst (-1), 1) := by decide +kernel
theorem dX9_addPerson_21 : decode cX9_addPerson 21 = .ok (.invokevirtual 86, 3) := by decide +kernel
theorem dX9_addPerson_24 : decode cX9_addPerson 24 = .ok (.aload_n 0, 1) := by decide +kernel
theorem dX9_addPerson_25 : decode cX9_addPerson 25 = .ok (.dup, 1) := by decide +kernel
theorem dX9_addPerson_26 : decode cX9_addPerson 26 = .ok (.getfield 62, 3) := by decide +kernel
theorem dX9_addPerson_29 : decode cX9_addPerson 29 = .ok (.iconst 1, 1) := by decide +kernel
theorem dX9_addPerson_30 : decode cX9_addPerson 30 = .ok (.iadd, 1) := by decide +kernel
theorem dX9_addPerson_31 : decode cX9_addPerson 31 = .ok (.putfield 62, 3) := by decide +kernel
theorem dX9_addPerson_34 : decode cX9_addPerson 34 = .ok (.return_, 1) := by decide +kernel
theorem dX9_likingOf_0 : decode cX9_likingOf 0 = .ok (.aload_n 0, 1) := by decide +kernel
theorem dX9_likingOf_1 : decode cX9_likingOf 1 = .ok (.getfield 26, 3) := by decide +kernel
theorem dX9_likingOf_4 : decode cX9_likingOf 4 = .ok (.iload_n 1, 1) := by decide +kernel
theorem dX9_likingOf_5 : decode cX9_likingOf 5 = .ok (.bipush 8, 2) := by decide +kernel
theorem dX9_likingOf_7 : decode cX9_likingOf 7 = .ok (.imul, 1) := by decide +kernel
theorem dX9_likingOf_8 : decode cX9_likingOf 8 = .ok (.iload_n 2, 1) := by decide +kernel
theorem dX9_likingOf_9 : decode cX9_likingOf 9 = .ok (.iadd, 1) := by decide +kernel
theorem dX9_likingOf_10 : decode cX9_likingOf 10 = .ok (.invokevirtual 90, 3) := by decide +kernel
theorem dX9_likingOf_13 : decode cX9_likingOf 13 = .ok (.ireturn, 1) := by decide +kernel
theorem dX9_setLiking_0 : decode cX9_setLiking 0 = .ok (.aload_n 0, 1) := by decide +kernel
theorem dX9_setLiking_1 : decode cX9_setLiking 1 = .ok (.getfield 26, 3) := by decide +kernel
theorem dX9_setLiking_4 : decode cX9_setLiking 4 = .ok (.iload_n 1, 1) := by decide +kernel
theorem dX9_setLiking_5 : decode cX9_setLiking 5 = .ok (.bipush 8, 2) := by decide +kernel
theorem dX9_setLiking_7 : decode cX9_setLiking 7 = .ok (.imul, 1) := by decide +kernel
theorem dX9_setLiking_8 : decode cX9_setLiking 8 = .ok (.iload_n 2, 1) := by decide +kernel
theorem dX9_setLiking_9 : decode cX9_setLiking 9 = .ok (.iadd, 1) := by decide +kernel
theorem dX9_setLiking_10 : decode cX9_setLiking 10 = .ok (.iload_n 3, 1) := by decide +kernel
theorem dX9_setLiking_11 : decode cX9_setLiking 11 = .ok (.invokevirtual 86, 3) := by decide +kernel
theorem dX9_setLiking_14 : decode cX9_setLiking 14 = .ok (.return_, 1) := by decide +kernel
theorem dX9_addAsked_0 : decode cX9_addAsked 0 = .ok (.aload_n 0, 1) := by decide +kernel
theorem dX9_addAsked_1 : decode cX9_addAsked 1 = .ok (.getfield 20, 3) := by decide +kernel
theorem dX9_addAsked_4 : decode cX9_addAsked 4 = .ok (.iload_n 1, 1) := by decide +kernel
theorem dX9_addAsked_5 : decode cX9_addAsked 5 = .ok (.invokevirtual 90, 3) := by decide +kernel
theorem dX9_addAsked_8 : decode cX9_addAsked 8 = .ok (.istore_n 3, 1) := by decide +kernel
theorem dX9_addAsked_9 : decode cX9_addAsked 9 = .ok (.aload_n 0, 1) := by decide +kernel
theorem dX9_addAsked_10 : decode cX9_addAsked 10 = .ok (.getfield 20, 3) := by decide +kernel
theorem dX9_addAsked_13 : decode cX9_addAsked 13 = .ok (.iload_n 1, 1) := by decide +kernel
theorem dX9_addAsked_14 : decode cX9_addAsked 14 = .ok (.iload_n 3, 1) := by decide +kernel
theorem dX9_addAsked_15 : decode cX9_addAsked 15 = .ok (.iconst 1, 1) := by decide +kernel
theorem dX9_addAsked_16 : decode cX9_addAsked 16 = .ok (.iload_n 2, 1) := by decide +kernel
theorem dX9_addAsked_17 : decode cX9_addAsked 17 = .ok (.ishl, 1) := by decide +kernel
theorem dX9_addAsked_18 : decode cX9_addAsked 18 = .ok (.ior, 1) := by decide +kernel
theorem dX9_addAsked_19 : decode cX9_addAsked 19 = .ok (.invokevirtual 86, 3) := by decide +kernel
theorem dX9_addAsked_22 : decode cX9_addAsked 22 = .ok (.iload_n 3, 1) := by decide +kernel
theorem dX9_addAsked_23 : decode cX9_addAsked 23 = .ok (.iload_n 2, 1) := by decide +kernel
theorem dX9_addAsked_24 : decode cX9_addAsked 24 = .ok (.invokestatic 94, 3) := by decide +kernel
theorem dX9_addAsked_27 : decode cX9_addAsked 27 = .ok (.ifCond .ne 7, 3) := by decide +kernel
theorem dX9_addAsked_30 : decode cX9_addAsked 30 = .ok (.iconst 1, 1) := by decide +kernel
theorem dX9_addAsked_31 : decode cX9_addAsked 31 = .ok (.goto 4, 3) := by decide +kernel
theorem dX9_addAsked_34 : decode cX9_addAsked 34 = .ok (.iconst 0, 1) := by decide +kernel
theorem dX9_addAsked_35 : decode cX9_addAsked 35 = .ok (.ireturn, 1) := by decide +kernel
theorem dX9_askersOf_0 : decode cX9_askersOf 0 = .ok (.iconst 0, 1) := by decide +kernel
theorem dX9_askersOf_1 : decode cX9_askersOf 1 = .ok (.istore_n 2, 1) := by decide +kernel
theorem dX9_askersOf_2 : decode cX9_askersOf 2 = .ok (.iconst 0, 1) := by decide +kernel
theorem dX9_askersOf_3 : decode cX9_askersOf 3 = .ok (.istore_n 3, 1) := by decide +kernel
theorem dX9_askersOf_4 : decode cX9_askersOf 4 = .ok (.iload_n 3, 1) := by decide +kernel
theorem dX9_askersOf_5 : decode cX9_askersOf 5 = .ok (.aload_n 0, 1) := by decide +kernel
theorem dX9_askersOf_6 : decode cX9_askersOf 6 = .ok (.getfield 62, 3) := by decide +kernel
theorem dX9_askersOf_9 : decode cX9_askersOf 9 = .ok (.if_icmp .ge 30, 3) := by decide +kernel
theorem dX9_askersOf_12 : decode cX9_askersOf 12 = .ok (.aload_n 0, 1) := by decide +kernel
theorem dX9_askersOf_13 : decode cX9_askersOf 13 = .ok (.getfield 20, 3) := by decide +kernel
theorem dX9_askersOf_16 : decode cX9_askersOf 16 = .ok (.iload_n 3, 1) := by decide +kernel
theorem dX9_askersOf_17 : decode cX9_askersOf 17 = .ok (.invokevirtual 90, 3) := by decide +kernel
theorem dX9_askersOf_20 : decode cX9_askersOf 20 = .ok (.iload_n 1, 1) := by decide +kernel
theorem dX9_askersOf_21 : decode cX9_askersOf 21 = .ok (.invokestatic 94, 3) := by decide +kernel
theorem dX9_askersOf_24 : decode cX9_askersOf 24 = .ok (.ifCond .eq 9, 3) := by decide +kernel
theorem dX9_askersOf_27 : decode cX9_askersOf 27 = .ok (.iload_n 2, 1) := by decide +kernel
theorem dX9_askersOf_28 : decode cX9_askersOf 28 = .ok (.iconst 1, 1) := by decide +kernel
theorem dX9_askersOf_29 : decode cX9_askersOf 29 = .ok (.iload_n 3, 1) := by decide +kernel
theorem dX9_askersOf_30 : decode cX9_askersOf 30 = .ok (.ishl, 1) := by decide +kernel
theorem dX9_askersOf_31 : decode cX9_askersOf 31 = .ok (.ior, 1) := by decide +kernel
theorem dX9_askersOf_32 : decode cX9_askersOf 32 = .ok (.istore_n 2, 1) := by decide +kernel
theorem dX9_askersOf_33 : decode cX9_askersOf 33 = .ok (.iinc 3 1, 3) := by decide +kernel
theorem dX9_askersOf_36 : decode cX9_askersOf 36 = .ok (.goto (-32), 3) := by decide +kernel
theorem dX9_askersOf_39 : decode cX9_askersOf 39 = .ok (.iload_n 2, 1) := by decide +kernel
theorem dX9_askersOf_40 : decode cX9_askersOf 40 = .ok (.ireturn, 1) := by decide +kernel
theorem dX9_isRuined_0 : decode cX9_isRuined 0 = .ok (.aload_n 0, 1) := by decide +kernel
theorem dX9_isRuined_1 : decode cX9_isRuined 1 = .ok (.getfield 83, 3) := by decide +kernel
theorem dX9_isRuined_4 : decode cX9_isRuined 4 = .ok (.iload_n 1, 1) := by decide +kernel
theorem dX9_isRuined_5 : decode cX9_isRuined 5 = .ok (.ishr, 1) := by decide +kernel
theorem dX9_isRuined_6 : decode cX9_isRuined 6 = .ok (.iconst 1, 1) := by decide +kernel
theorem dX9_isRuined_7 : decode cX9_isRuined 7 = .ok (.iand, 1) := by decide +kernel
theorem dX9_isRuined_8 : decode cX9_isRuined 8 = .ok (.ifCond .eq 7, 3) := by decide +kernel
theorem dX9_isRuined_11 : decode cX9_isRuined 11 = .ok (.iconst 1, 1) := by decide +kernel
theorem dX9_isRuined_12 : decode cX9_isRuined 12 = .ok (.goto 4, 3) := by decide +kernel
theorem dX9_isRuined_15 : decode cX9_isRuined 15 = .ok (.iconst 0, 1) := by decide +kernel
theorem dX9_isRuined_16 : decode cX9_isRuined 16 = .ok (.ireturn, 1) := by decide +kernel
theorem dX9_wealthOfAll_0 : decode cX9_wealthOfAll 0 = .ok (.iconst 0, 1) := by decide +kernel
theorem dX9_wealthOfAll_1 : decode cX9_wealthOfAll 1 = .ok (.istore_n 1, 1) := by decide +kernel
theorem dX9_wealthOfAll_2 : decode cX9_wealthOfAll 2 = .ok (.iconst 0, 1) := by decide +kernel
theorem dX9_wealthOfAll_3 : decode cX9_wealthOfAll 3 = .ok (.istore_n 2, 1) := by decide +kernel
theorem dX9_wealthOfAll_4 : decode cX9_wealthOfAll 4 = .ok (.iload_n 2, 1) := by decide +kernel
theorem dX9_wealthOfAll_5 : decode cX9_wealthOfAll 5 = .ok (.aload_n 0, 1) := by decide +kernel
theorem dX9_wealthOfAll_6 : decode cX9_wealthOfAll 6 = .ok (.getfield 62, 3) := by decide +kernel
theorem dX9_wealthOfAll_9 : decode cX9_wealthOfAll 9 = .ok (.if_icmp .ge 20, 3) := by decide +kernel
theorem dX9_wealthOfAll_12 : decode cX9_wealthOfAll 12 = .ok (.iload_n 1, 1) := by decide +kernel
theorem dX9_wealthOfAll_13 : decode cX9_wealthOfAll 13 = .ok (.aload_n 0, 1) := by decide +kernel
theorem dX9_wealthOfAll_14 : decode cX9_wealthOfAll 14 = .ok (.getfield 14, 3) := by decide +kernel
theorem dX9_wealthOfAll_17 : decode cX9_wealthOfAll 17 = .ok (.iload_n 2, 1) := by decide +kernel
theorem dX9_wealthOfAll_18 : decode cX9_wealthOfAll 18 = .ok (.invokevirtual 90, 3) := by decide +kernel
theorem dX9_wealthOfAll_21 : decode cX9_wealthOfAll 21 = .ok (.iadd, 1) := by decide +kernel
theorem dX9_wealthOfAll_22 : decode cX9_wealthOfAll 22 = .ok (.istore_n 1, 1) := by decide +kernel
theorem dX9_wealthOfAll_23 : decode cX9_wealthOfAll 23 = .ok (.iinc 2 1, 3) := by decide +kernel
theorem dX9_wealthOfAll_26 : decode cX9_wealthOfAll 26 = .ok (.goto (-22), 3) := by decide +kernel
theorem dX9_wealthOfAll_29 : decode cX9_wealthOfAll 29 = .ok (.iload_n 1, 1) := by decide +kernel
theorem dX9_wealthOfAll_30 : decode cX9_wealthOfAll 30 = .ok (.ireturn, 1) := by decide +kernel
theorem dX9_shareOf_0 : decode cX9_shareOf 0 = .ok (.aload_n 0, 1) := by decide +kernel
theorem dX9_shareOf_1 : decode cX9_shareOf 1 = .ok (.invokevirtual 98, 3) := by decide +kernel
theorem dX9_shareOf_4 : decode cX9_shareOf 4 = .ok (.istore_n 2, 1) := by decide +kernel
theorem dX9_shareOf_5 : decode cX9_shareOf 5 = .ok (.iload_n 2, 1) := by decide +kernel
theorem dX9_shareOf_6 : decode cX9_shareOf 6 = .ok (.ifCond .gt 7, 3) := by decide +kernel
theorem dX9_shareOf_9 : decode cX9_shareOf 9 = .ok (.iconst 0, 1) := by decide +kernel
theorem dX9_shareOf_10 : decode cX9_shareOf 10 = .ok (.goto 16, 3) := by decide +kernel
theorem dX9_shareOf_13 : decode cX9_shareOf 13 = .ok (.aload_n 0, 1) := by decide +kernel
theorem dX9_shareOf_14 : decode cX9_shareOf 14 = .ok (.getfield 14, 3) := by decide +kernel
theorem dX9_shareOf_17 : decode cX9_shareOf 17 = .ok (.iload_n 1, 1) := by decide +kernel
theorem dX9_shareOf_18 : decode cX9_shareOf 18 = .ok (.invokevirtual 90, 3) := by decide +kernel
theorem dX9_shareOf_21 : decode cX9_shareOf 21 = .ok (.bipush 100, 2) := by decide +kernel
theorem dX9_shareOf_23 : decode cX9_shareOf 23 = .ok (.imul, 1) := by decide +kernel
theorem dX9_shareOf_24 : decode cX9_shareOf 24 = .ok (.iload_n 2, 1) := by decide +kernel
theorem dX9_shareOf_25 : decode cX9_shareOf 25 = .ok (.idiv, 1) := by decide +kernel
theorem dX9_shareOf_26 : decode cX9_shareOf 26 = .ok (.ireturn, 1) := by decide +kernel
theorem dX9_richestPerson_0 : decode cX9_richestPerson 0 = .ok (.iconst (-1), 1) := by decide +kernel
theorem dX9_richestPerson_1 : decode cX9_richestPerson 1 = .ok (.istore_n 1, 1) := by decide +kernel
theorem dX9_richestPerson_2 : decode cX9_richestPerson 2 = .ok (.iconst 0, 1) := by decide +kernel
theorem dX9_richestPerson_3 : decode cX9_richestPerson 3 = .ok (.istore_n 2, 1) := by decide +kernel
theorem dX9_richestPerson_4 : decode cX9_richestPerson 4 = .ok (.iload_n 2, 1) := by decide +kernel
theorem dX9_richestPerson_5 : decode cX9_richestPerson 5 = .ok (.aload_n 0, 1) := by decide +kernel
theorem dX9_richestPerson_6 : decode cX9_richestPerson 6 = .ok (.getfield 62, 3) := by decide +kernel
theorem dX9_richestPerson_9 : decode cX9_richestPerson 9 = .ok (.if_icmp .ge 43, 3) := by decide +kernel
theorem dX9_richestPerson_12 : decode cX9_richestPerson 12 = .ok (.aload_n 0, 1) := by decide +kernel
theorem dX9_richestPerson_13 : decode cX9_richestPerson 13 = .ok (.iload_n 2, 1) := by decide +kernel
theorem dX9_richestPerson_14 : decode cX9_richestPerson 14 = .ok (.invokevirtual 102, 3) := by decide +kernel
theorem dX9_richestPerson_17 : decode cX9_richestPerson 17 = .ok (.ifCond .ne 29, 3) := by decide +kernel
theorem dX9_richestPerson_20 : decode cX9_richestPerson 20 = .ok (.iload_n 1, 1) := by decide +kernel
theorem dX9_richestPerson_21 : decode cX9_richestPerson 21 = .ok (.iconst (-1), 1) := by decide +kernel
theorem dX9_richestPerson_22 : decode cX9_richestPerson 22 = .ok (.if_icmp .eq 22, 3) := by decide +kernel
theorem dX9_richestPerson_25 : decode cX9_richestPerson 25 = .ok (.aload_n 0, 1) := by decide +kernel
theorem dX9_richestPerson_26 : decode cX9_richestPerson 26 = .ok (.getfield 14, 3) := by decide +kernel
theorem dX9_richestPerson_29 : decode cX9_richestPerson 29 = .ok (.iload_n 2, 1) := by decide +kernel
theorem dX9_richestPerson_30 : decode cX9_richestPerson 30 = .ok (.invokevirtual 90, 3) := by decide +kernel
theorem dX9_richestPerson_33 : decode cX9_richestPerson 33 = .ok (.aload_n 0, 1) := by decide +kernel
theorem dX9_richestPerson_34 : decode cX9_richestPerson 34 = .ok (.getfield 14, 3) := by decide +kernel
theorem dX9_richestPerson_37 : decode cX9_richestPerson 37 = .ok (.iload_n 1, 1) := by decide +kernel
theorem dX9_richestPerson_38 : decode cX9_richestPerson 38 = .ok (.invokevirtual 90, 3) := by decide +kernel
theorem dX9_richestPerson_41 : decode cX9_richestPerson 41 = .ok (.if_icmp .le 5, 3) := by decide +kernel
theorem dX9_richestPerson_44 : decode cX9_richestPerson 44 = .ok (.iload_n 2, 1) := by decide +kernel
theorem dX9_richestPerson_45 : decode cX9_richestPerson 45 = .ok (.istore_n 1, 1) := by decide +kernel
theorem dX9_richestPerson_46 : decode cX9_richestPerson 46 = .ok (.iinc 2 1, 3) := by decide +kernel
theorem dX9_richestPerson_49 : decode cX9_richestPerson 49 = .ok (.goto (-45), 3) := by decide +kernel
theorem dX9_richestPerson_52 : decode cX9_richestPerson 52 = .ok (.iload_n 1, 1) := by decide +kernel
theorem dX9_richestPerson_53 : decode cX9_richestPerson 53 = .ok (.ireturn, 1) := by decide +kernel
theorem dX9_ringSteps_0 : decode cX9_ringSteps 0 = .ok (.aload_n 0, 1) := by decide +kernel
theorem dX9_ringSteps_1 : decode cX9_ringSteps 1 = .ok (.getfield 23, 3) := by decide +kernel
theorem dX9_ringSteps_4 : decode cX9_ringSteps 4 = .ok (.iload_n 1, 1) := by decide +kernel
theorem dX9_ringSteps_5 : decode cX9_ringSteps 5 = .ok (.invokevirtual 90, 3) := by decide +kernel
theorem dX9_ringSteps_8 : decode cX9_ringSteps 8 = .ok (.istore_n 2, 1) := by decide +kernel
theorem dX9_ringSteps_9 : decode cX9_ringSteps 9 = .ok (.iconst 1, 1) := by decide +kernel
theorem dX9_ringSteps_10 : decode cX9_ringSteps 10 = .ok (.istore_n 3, 1) := by decide +kernel
theorem dX9_ringSteps_11 : decode cX9_ringSteps 11 = .ok (.iload_n 3, 1) := by decide +kernel
theorem dX9_ringSteps_12 : decode cX9_ringSteps 12 = .ok (.aload_n 0, 1) := by decide +kernel
theorem dX9_ringSteps_13 : decode cX9_ringSteps 13 = .ok (.getfield 62, 3) := by decide +kernel
theorem dX9_ringSteps_16 : decode cX9_ringSteps 16 = .ok (.if_icmp .gt 30, 3) := by decide +kernel
theorem dX9_ringSteps_19 : decode cX9_ringSteps 19 = .ok (.iload_n 2, 1) := by decide +kernel
theorem dX9_ringSteps_20 : decode cX9_ringSteps 20 = .ok (.iconst (-1), 1) := by decide +kernel
theorem dX9_ringSteps_21 : decode cX9_ringSteps 21 = .ok (.if_icmp .eq 25, 3) := by decide +kernel
theorem dX9_ringSteps_24 : decode cX9_ringSteps 24 = .ok (.iload_n 2, 1) := by decide +kernel
theorem dX9_ringSteps_25 : decode cX9_ringSteps 25 = .ok (.iload_n 1, 1) := by decide +kernel
theorem dX9_ringSteps_26 : decode cX9_ringSteps 26 = .ok (.if_icmp .ne 5, 3) := by decide +kernel
theorem dX9_ringSteps_29 : decode cX9_ringSteps 29 = .ok (.iload_n 3, 1) := by decide +kernel
theorem dX9_ringSteps_30 : decode cX9_ringSteps 30 = .ok (.ireturn, 1) := by decide +kernel
theorem dX9_ringSteps_31 : decode cX9_ringSteps 31 = .ok (.aload_n 0, 1) := by decide +kernel
theorem dX9_ringSteps_32 : decode cX9_ringSteps 32 = .ok (.getfield 23, 3) := by decide +kernel
theorem dX9_ringSteps_35 : decode cX9_ringSteps 35 = .ok (.iload_n 2, 1) := by decide +kernel
theorem dX9_ringSteps_36 : decode cX9_ringSteps 36 = .ok (.invokevirtual 90, 3) := by decide +kernel
theorem dX9_ringSteps_39 : decode cX9_ringSteps 39 = .ok (.istore_n 2, 1) := by decide +kernel
theorem dX9_ringSteps_40 : decode cX9_ringSteps 40 = .ok (.iinc 3 1, 3) := by decide +kernel
theorem dX9_ringSteps_43 : decode cX9_ringSteps 43 = .ok (.goto (-32), 3) := by decide +kernel
theorem dX9_ringSteps_46 : decode cX9_ringSteps 46 = .ok (.iconst (-1), 1) := by decide +kernel
theorem dX9_ringSteps_47 : decode cX9_ringSteps 47 = .ok (.ireturn, 1) := by decide +kernel
theorem dX9_ringCount_0 : decode cX9_ringCount 0 = .ok (.iconst 0, 1) := by decide +kernel
theorem dX9_ringCount_1 : decode cX9_ringCount 1 = .ok (.istore_n 1, 1) := by decide +kernel
theorem dX9_ringCount_2 : decode cX9_ringCount 2 = .ok (.iconst 0, 1) := by decide +kernel
theorem dX9_ringCount_3 : decode cX9_ringCount 3 = .ok (.istore_n 2, 1) := by decide +kernel
theorem dX9_ringCount_4 : decode cX9_ringCount 4 = .ok (.iload_n 2, 1) := by decide +kernel
theorem dX9_ringCount_5 : decode cX9_ringCount 5 = .ok (.aload_n 0, 1) := by decide +kernel
theorem dX9_ringCount_6 : decode cX9_ringCount 6 = .ok (.getfield 62, 3) := by decide +kernel
theorem dX9_ringCount_9 : decode cX9_ringCount 9 = .ok (.if_icmp .ge 29, 3) := by decide +kernel
theorem dX9_ringCount_12 : decode cX9_ringCount 12 = .ok (.aload_n 0, 1) := by decide +kernel
theorem dX9_ringCount_13 : decode cX9_ringCount 13 = .ok (.iload_n 2, 1) := by decide +kernel
theorem dX9_ringCount_14 : decode cX9_ringCount 14 = .ok (.invokevirtual 106, 3) := by decide +kernel
theorem dX9_ringCount_17 : decode cX9_ringCount 17 = .ok (.iconst (-1), 1) := by decide +kernel
theorem dX9_ringCount_18 : decode cX9_ringCount 18 = .ok (.if_icmp .eq 14, 3) := by decide +kernel
theorem dX9_ringCount_21 : decode cX9_ringCount 21 = .ok (.aload_n 0, 1) := by decide +kernel
theorem dX9_ringCount_22 : decode cX9_ringCount 22 = .ok (.iload_n 2, 1) := by decide +kernel
theorem dX9_ringCount_23 : decode cX9_ringCount 23 = .ok (.invokevirtual 109, 3) := by decide +kernel
theorem dX9_ringCount_26 : decode cX9_ringCount 26 = .ok (.ifCond .eq 6, 3) := by decide +kernel
theorem dX9_ringCount_29 : decode cX9_ringCount 29 = .ok (.iinc 1 1, 3) := by decide +kernel
theorem dX9_ringCount_32 : decode cX9_ringCount 32 = .ok (.iinc 2 1, 3) := by decide +kernel
theorem dX9_ringCount_35 : decode cX9_ringCount 35 = .ok (.goto (-31), 3) := by decide +kernel
theorem dX9_ringCount_38 : decode cX9_ringCount 38 = .ok (.iload_n 1, 1) := by decide +kernel
theorem dX9_ringCount_39 : decode cX9_ringCount 39 = .ok (.ireturn, 1) := by decide +kernel
theorem dX9_isLeastOfRing_0 : decode cX9_isLeastOfRing 0 = .ok (.aload_n 0, 1) := by decide +kernel
theorem dX9_isLeastOfRing_1 : decode cX9_isLeastOfRing 1 = .ok (.getfield 23, 3) := by decide +kernel
theorem dX9_isLeastOfRing_4 : decode cX9_isLeastOfRing 4 = .ok (.iload_n 1, 1) := by decide +kernel
theorem dX9_isLeastOfRing_5 : decode cX9_isLeastOfRing 5 = .ok (.invokevirtual 90, 3) := by decide +kernel
theorem dX9_isLeastOfRing_8 : decode cX9_isLeastOfRing 8 = .ok (.istore_n 2, 1) := by decide +kernel
theorem dX9_isLeastOfRing_9 : decode cX9_isLeastOfRing 9 = .ok (.iconst 1, 1) := by decide +kernel
theorem dX9_isLeastOfRing_10 : decode cX9_isLeastOfRing 10 = .ok (.istore_n 3, 1) := by decide +kernel
theorem dX9_isLeastOfRing_11 : decode cX9_isLeastOfRing 11 = .ok (.iload_n 3, 1) := by decide +kernel
theorem dX9_isLeastOfRing_12 : decode cX9_isLeastOfRing 12 = .ok (.aload_n 0, 1) := by decide +kernel
theorem dX9_isLeastOfRing_13 : decode cX9_isLeastOfRing 13 = .ok (.getfield 62, 3) := by decide +kernel
theorem dX9_isLeastOfRing_16 : decode cX9_isLeastOfRing 16 = .ok (.if_icmp .gt 35, 3) := by decide +kernel
theorem dX9_isLeastOfRing_19 : decode cX9_isLeastOfRing 19 = .ok (.iload_n 2, 1) := by decide +kernel
theorem dX9_isLeastOfRing_20 : decode cX9_isLeastOfRing 20 = .ok (.iconst (-1), 1) := by decide +kernel
theorem dX9_isLeastOfRing_21 : decode cX9_isLeastOfRing 21 = .ok (.if_icmp .eq 30, 3) := by decide +kernel
theorem dX9_isLeastOfRing_24 : decode cX9_isLeastOfRing 24 = .ok (.iload_n 2, 1) := by decide +kernel
theorem dX9_isLeastOfRing_25 : decode cX9_isLeastOfRing 25 = .ok (.iload_n 1, 1) := by decide +kernel
theorem dX9_isLeastOfRing_26 : decode cX9_isLeastOfRing 26 = .ok (.if_icmp .eq 25, 3) := by decide +kernel
theorem dX9_isLeastOfRing_29 : decode cX9_isLeastOfRing 29 = .ok (.iload_n 2, 1) := by decide +kernel
theorem dX9_isLeastOfRing_30 : decode cX9_isLeastOfRing 30 = .ok (.iload_n 1, 1) := by decide +kernel
theorem dX9_isLeastOfRing_31 : decode cX9_isLeastOfRing 31 = .ok (.if_icmp .ge 5, 3) := by decide +kernel
theorem dX9_isLeastOfRing_34 : decode cX9_isLeastOfRing 34 = .ok (.iconst 0, 1) := by decide +kernel
theorem dX9_isLeastOfRing_35 : decode cX9_isLeastOfRing 35 = .ok (.ireturn, 1) := by decide +kernel
theorem dX9_isLeastOfRing_36 : decode cX9_isLeastOfRing 36 = .ok (.aload_n 0, 1) := by decide +kernel
theorem dX9_isLeastOfRing_37 : decode cX9_isLeastOfRing 37 = .ok (.getfield 23, 3) := by decide +kernel
theorem dX9_isLeastOfRing_40 : decode cX9_isLeastOfRing 40 = .ok (.iload_n 2, 1) := by decide +kernel
theorem dX9_isLeastOfRing_41 : decode cX9_isLeastOfRing 41 = .ok (.invokevirtual 90, 3) := by decide +kernel
theorem dX9_isLeastOfRing_44 : decode cX9_isLeastOfRing 44 = .ok (.istore_n 2, 1) := by decide +kernel
theorem dX9_isLeastOfRing_45 : decode cX9_isLeastOfRing 45 = .ok (.iinc 3 1, 3) := by decide +kernel
theorem dX9_isLeastOfRing_48 : decode cX9_isLeastOfRing 48 = .ok (.goto (-37), 3) := by decide +kernel
theorem dX9_isLeastOfRing_51 : decode cX9_isLeastOfRing 51 = .ok (.iconst 1, 1) := by decide +kernel
theorem dX9_isLeastOfRing_52 : decode cX9_isLeastOfRing 52 = .ok (.ireturn, 1) := by decide +kernel
theorem dX9_leaners_0 : decode cX9_leaners 0 = .ok (.iconst 0, 1) := by decide +kernel
theorem dX9_leaners_1 : decode cX9_leaners 1 = .ok (.istore_n 2, 1) := by decide +kernel
theorem dX9_leaners_2 : decode cX9_leaners 2 = .ok (.iconst 0, 1) := by decide +kernel
theorem dX9_leaners_3 : decode cX9_leaners 3 = .ok (.istore_n 3, 1) := by decide +kernel
theorem dX9_leaners_4 : decode cX9_leaners 4 = .ok (.iload_n 3, 1) := by decide +kernel
theorem dX9_leaners_5 : decode cX9_leaners 5 = .ok (.aload_n 0, 1) := by decide +kernel
theorem dX9_leaners_6 : decode cX9_leaners 6 = .ok (.getfield 62, 3) := by decide +kernel
theorem dX9_leaners_9 : decode cX9_leaners 9 = .ok (.if_icmp .ge 24, 3) := by decide +kernel
theorem dX9_leaners_12 : decode cX9_leaners 12 = .ok (.aload_n 0, 1) := by decide +kernel
theorem dX9_leaners_13 : decode cX9_leaners 13 = .ok (.iload_n 3, 1) := by decide +kernel
theorem dX9_leaners_14 : decode cX9_leaners 14 = .ok (.iload_n 1, 1) := by decide +kernel
theorem dX9_leaners_15 : decode cX9_leaners 15 = .ok (.invokevirtual 112, 3) := by decide +kernel
theorem dX9_leaners_18 : decode cX9_leaners 18 = .ok (.ifCond .eq 9, 3) := by decide +kernel
theorem dX9_leaners_21 : decode cX9_leaners 21 = .ok (.iload_n 2, 1) := by decide +kernel
theorem dX9_leaners_22 : decode cX9_leaners 22 = .ok (.iconst 1, 1) := by decide +kernel
theorem dX9_leaners_23 : decode cX9_leaners 23 = .ok (.iload_n 3, 1) := by decide +kernel
theorem dX9_leaners_24 : decode cX9_leaners 24 = .ok (.ishl, 1) := by decide +kernel
theorem dX9_leaners_25 : decode cX9_leaners 25 = .ok (.ior, 1) := by decide +kernel
theorem dX9_leaners_26 : decode cX9_leaners 26 = .ok (.istore_n 2, 1) := by decide +kernel
theorem dX9_leaners_27 : decode cX9_leaners 27 = .ok (.iinc 3 1, 3) := by decide +kernel
theorem dX9_leaners_30 : decode cX9_leaners 30 = .ok (.goto (-26), 3) := by decide +kernel
theorem dX9_leaners_33 : decode cX9_leaners 33 = .ok (.iload_n 2, 1) := by decide +kernel
theorem dX9_leaners_34 : decode cX9_leaners 34 = .ok (.ireturn, 1) := by decide +kernel
theorem dX9_comesTo_0 : decode cX9_comesTo 0 = .ok (.aload_n 0, 1) := by decide +kernel
theorem dX9_comesTo_1 : decode cX9_comesTo 1 = .ok (.getfield 23, 3) := by decide +kernel
theorem dX9_comesTo_4 : decode cX9_comesTo 4 = .ok (.iload_n 1, 1) := by decide +kernel
theorem dX9_comesTo_5 : decode cX9_comesTo 5 = .ok (.invokevirtual 90, 3) := by decide +kernel
theorem dX9_comesTo_8 : decode cX9_comesTo 8 = .ok (.istore_n 3, 1) := by decide +kernel
theorem dX9_comesTo_9 : decode cX9_comesTo 9 = .ok (.iconst 1, 1) := by decide +kernel
theorem dX9_comesTo_10 : decode cX9_comesTo 10 = .ok (.istore 4, 2) := by decide +kernel
theorem dX9_comesTo_12 : decode cX9_comesTo 12 = .ok (.iload 4, 2) := by decide +kernel
theorem dX9_comesTo_14 : decode cX9_comesTo 14 = .ok (.aload_n 0, 1) := by decide +kernel
theorem dX9_comesTo_15 : decode cX9_comesTo 15 = .ok (.getfield 62, 3) := by decide +kernel
theorem dX9_comesTo_18 : decode cX9_comesTo 18 = .ok (.if_icmp .gt 30, 3) := by decide +kernel
theorem dX9_comesTo_21 : decode cX9_comesTo 21 = .ok (.iload_n 3, 1) := by decide +kernel
theorem dX9_comesTo_22 : decode cX9_comesTo 22 = .ok (.iconst (-1), 1) := by decide +kernel
theorem dX9_comesTo_23 : decode cX9_comesTo 23 = .ok (.if_icmp .eq 25, 3) := by decide +kernel
theorem dX9_comesTo_26 : decode cX9_comesTo 26 = .ok (.iload_n 3, 1) := by decide +kernel
theorem dX9_comesTo_27 : decode cX9_comesTo 27 = .ok (.iload_n 2, 1) := by decide +kernel
theorem dX9_comesTo_28 : decode cX9_comesTo 28 = .ok (.if_icmp .ne 5, 3) := by decide +kernel
theorem dX9_comesTo_31 : decode cX9_comesTo 31 = .ok (.iconst 1, 1) := by decide +kernel
theorem dX9_comesTo_32 : decode cX9_comesTo 32 = .ok (.ireturn, 1) := by decide +kernel
theorem dX9_comesTo_33 : decode cX9_comesTo 33 = .ok (.aload_n 0, 1) := by decide +kernel
theorem dX9_comesTo_34 : decode cX9_comesTo 34 = .ok (.getfield 23, 3) := by decide +kernel
theorem dX9_comesTo_37 : decode cX9_comesTo 37 = .ok (.iload_n 3, 1) := by decide +kernel
theorem dX9_comesTo_38 : decode cX9_comesTo 38 = .ok (.invokevirtual 90, 3) := by decide +kernel
theorem dX9_comesTo_41 : decode cX9_comesTo 41 = .ok (.istore_n 3, 1) := by decide +kernel
theorem dX9_comesTo_42 : decode cX9_comesTo 42 = .ok (.iinc 4 1, 3) := by decide +kernel
theorem dX9_comesTo_45 : decode cX9_comesTo 45 = .ok (.goto (-33), 3) := by decide +kernel
theorem dX9_comesTo_48 : decode cX9_comesTo 48 = .ok (.iconst 0, 1) := by decide +kernel
theorem dX9_comesTo_49 : decode cX9_comesTo 49 = .ok (.ireturn, 1) := by decide +kernel
theorem dX9_firstOf_0 : decode cX9_firstOf 0 = .ok (.aload_n 0, 1) := by decide +kernel
theorem dX9_firstOf_1 : decode cX9_firstOf 1 = .ok (.getfield 29, 3) := by decide +kernel
theorem dX9_firstOf_4 : decode cX9_firstOf 4 = .ok (.iconst 2, 1) := by decide +kernel
theorem dX9_firstOf_5 : decode cX9_firstOf 5 = .ok (.iload_n 1, 1) := by decide +kernel
theorem dX9_firstOf_6 : decode cX9_firstOf 6 = .ok (.imul, 1) := by decide +kernel
theorem dX9_firstOf_7 : decode cX9_firstOf 7 = .ok (.invokevirtual 90, 3) := by decide +kernel
theorem dX9_firstOf_10 : decode cX9_firstOf 10 = .ok (.ireturn, 1) := by decide +kernel
theorem dX9_secondOf_0 : decode cX9_secondOf 0 = .ok (.aload_n 0, 1) := by decide +kernel
theorem dX9_secondOf_1 : decode cX9_secondOf 1 = .ok (.getfield 29, 3) := by decide +kernel
theorem dX9_secondOf_4 : decode cX9_secondOf 4 = .ok (.iconst 2, 1) := by decide +kernel
theorem dX9_secondOf_5 : decode cX9_secondOf 5 = .ok (.iload_n 1, 1) := by decide +kernel
theorem dX9_secondOf_6 : decode cX9_secondOf 6 = .ok (.imul, 1) := by decide +kernel
theorem dX9_secondOf_7 : decode cX9_secondOf 7 = .ok (.iconst 1, 1) := by decide +kernel
theorem dX9_secondOf_8 : decode cX9_secondOf 8 = .ok (.iadd, 1) := by decide +kernel
theorem dX9_secondOf_9 : decode cX9_secondOf 9 = .ok (.invokevirtual 90, 3) := by decide +kernel
theorem dX9_secondOf_12 : decode cX9_secondOf 12 = .ok (.ireturn, 1) := by decide +kernel
theorem dX9_isOver_0 : decode cX9_isOver 0 = .ok (.aload_n 0, 1) := by decide +kernel
theorem dX9_isOver_1 : decode cX9_isOver 1 = .ok (.getfield 68, 3) := by decide +kernel
theorem dX9_isOver_4 : decode cX9_isOver 4 = .ok (.iload_n 1, 1) := by decide +kernel
theorem dX9_isOver_5 : decode cX9_isOver 5 = .ok (.ishr, 1) := by decide +kernel
theorem dX9_isOver_6 : decode cX9_isOver 6 = .ok (.iconst 1, 1) := by decide +kernel
theorem dX9_isOver_7 : decode cX9_isOver 7 = .ok (.iand, 1) := by decide +kernel
theorem dX9_isOver_8 : decode cX9_isOver 8 = .ok (.ifCond .eq 7, 3) := by decide +kernel
theorem dX9_isOver_11 : decode cX9_isOver 11 = .ok (.iconst 1, 1) := by decide +kernel
theorem dX9_isOver_12 : decode cX9_isOver 12 = .ok (.goto 4, 3) := by decide +kernel
theorem dX9_isOver_15 : decode cX9_isOver 15 = .ok (.iconst 0, 1) := by decide +kernel
theorem dX9_isOver_16 : decode cX9_isOver 16 = .ok (.ireturn, 1) := by decide +kernel
theorem dX9_endMatch_0 : decode cX9_endMatch 0 = .ok (.aload_n 0, 1) := by decide +kernel
theorem dX9_endMatch_1 : decode cX9_endMatch 1 = .ok (.dup, 1) := by decide +kernel
theorem dX9_endMatch_2 : decode cX9_endMatch 2 = .ok (.getfield 68, 3) := by decide +kernel
theorem dX9_endMatch_5 : decode cX9_endMatch 5 = .ok (.iconst 1, 1) := by decide +kernel
theorem dX9_endMatch_6 : decode cX9_endMatch 6 = .ok (.iload_n 1, 1) := by decide +kernel
theorem dX9_endMatch_7 : decode cX9_endMatch 7 = .ok (.ishl, 1) := by decide +kernel
theorem dX9_endMatch_8 : decode cX9_endMatch 8 = .ok (.ior, 1) := by decide +kernel
theorem dX9_endMatch_9 : decode cX9_endMatch 9 = .ok (.putfield 68, 3) := by decide +kernel
theorem dX9_endMatch_12 : decode cX9_endMatch 12 = .ok (.return_, 1) := by decide +kernel
theorem dX9_addMatch_0 : decode cX9_addMatch 0 = .ok (.aload_n 0, 1) := by decide +kernel
theorem dX9_addMatch_1 : decode cX9_addMatch 1 = .ok (.getfield 65, 3) := by decide +kernel
theorem dX9_addMatch_4 : decode cX9_addMatch 4 = .ok (.istore 4, 2) := by decide +kernel
theorem dX9_addMatch_6 : decode cX9_addMatch 6 = .ok (.aload_n 0, 1) := by decide +kernel
theorem dX9_addMatch_7 : decode cX9_addMatch 7 = .ok (.getfield 29, 3) := by decide +kernel
theorem dX9_addMatch_10 : decode cX9_addMatch 10 = .ok (.iconst 2, 1) := by decide +kernel
theorem dX9_addMatch_11 : decode cX9_addMatch 11 = .ok (.iload 4, 2) := by decide +kernel
theorem dX9_addMatch_13 : decode cX9_addMatch 13 = .ok (.imul, 1) := by decide +kernel
theorem dX9_addMatch_14 : decode cX9_addMatch 14 = .ok (.iload_n 1, 1) := by decide +kernel
theorem dX9_addMatch_15 : decode cX9_addMatch 15 = .ok (.invokevirtual 86, 3) := by decide +kernel
theorem dX9_addMatch_18 : decode cX9_addMatch 18 = .ok (.aload_n 0, 1) := by decide +kernel
theorem dX9_addMatch_19 : decode cX9_addMatch 19 = .ok (.getfield 29, 3) := by decide +kernel
theorem dX9_addMatch_22 : decode cX9_addMatch 22 = .ok (.iconst 2, 1) := by decide +kernel
theorem dX9_addMatch_23 : decode cX9_addMatch 23 = .ok (.iload 4, 2) := by decide +kernel
theorem dX9_addMatch_25 : decode cX9_addMatch 25 = .ok (.imul, 1) := by decide +kernel
theorem dX9_addMatch_26 : decode cX9_addMatch 26 = .ok (.iconst 1, 1) := by decide +kernel
theorem dX9_addMatch_27 : decode cX9_addMatch 27 = .ok (.iadd, 1) := by decide +kernel
theorem dX9_addMatch_28 : decode cX9_addMatch 28 = .ok (.iload_n 2, 1) := by decide +kernel
theorem dX9_addMatch_29 : decode cX9_addMatch 29 = .ok (.invokevirtual 86, 3) := by decide +kernel
theorem dX9_addMatch_32 : decode cX9_addMatch 32 = .ok (.aload_n 0, 1) := by decide +kernel
theorem dX9_addMatch_33 : decode cX9_addMatch 33 = .ok (.getfield 32, 3) := by decide +kernel
theorem dX9_addMatch_36 : decode cX9_addMatch 36 = .ok (.iload 4, 2) := by decide +kernel
theorem dX9_addMatch_38 : decode cX9_addMatch 38 = .ok (.iload_n 3, 1) := by decide +kernel
theorem dX9_addMatch_39 : decode cX9_addMatch 39 = .ok (.invokevirtual 86, 3) := by decide +kernel
theorem dX9_addMatch_42 : decode cX9_addMatch 42 = .ok (.aload_n 0, 1) := by decide +kernel
theorem dX9_addMatch_43 : decode cX9_addMatch 43 = .ok (.getfield 35, 3) := by decide +kernel
theorem dX9_addMatch_46 : decode cX9_addMatch 46 = .ok (.iload 4, 2) := by decide +kernel
theorem dX9_addMatch_48 : decode cX9_addMatch 48 = .ok (.iconst 0, 1) := by decide +kernel
theorem dX9_addMatch_49 : decode cX9_addMatch 49 = .ok (.invokevirtual 86, 3) := by decide +kernel
theorem dX9_addMatch_52 : decode cX9_addMatch 52 = .ok (.aload_n 0, 1) := by decide +kernel
theorem dX9_addMatch_53 : decode cX9_addMatch 53 = .ok (.dup, 1) := by decide +kernel
theorem dX9_addMatch_54 : decode cX9_addMatch 54 = .ok (.getfield 65, 3) := by decide +kernel
theorem dX9_addMatch_57 : decode cX9_addMatch 57 = .ok (.iconst 1, 1) := by decide +kernel
theorem dX9_addMatch_58 : decode cX9_addMatch 58 = .ok (.iadd, 1) := by decide +kernel
theorem dX9_addMatch_59 : decode cX9_addMatch 59 = .ok (.putfield 65, 3) := by decide +kernel
theorem dX9_addMatch_62 : decode cX9_addMatch 62 = .ok (.iload 4, 2) := by decide +kernel
theorem dX9_addMatch_64 : decode cX9_addMatch 64 = .ok (.ireturn, 1) := by decide +kernel
theorem dX9_changeHappy_0 : decode cX9_changeHappy 0 = .ok (.aload_n 0, 1) := by decide +kernel
theorem dX9_changeHappy_1 : decode cX9_changeHappy 1 = .ok (.getfield 32, 3) := by decide +kernel
theorem dX9_changeHappy_4 : decode cX9_changeHappy 4 = .ok (.iload_n 1, 1) := by decide +kernel
theorem dX9_changeHappy_5 : decode cX9_changeHappy 5 = .ok (.aload_n 0, 1) := by decide +kernel
theorem dX9_changeHappy_6 : decode cX9_changeHappy 6 = .ok (.getfield 32, 3) := by decide +kernel
theorem dX9_changeHappy_9 : decode cX9_changeHappy 9 = .ok (.iload_n 1, 1) := by decide +kernel
theorem dX9_changeHappy_10 : decode cX9_changeHappy 10 = .ok (.invokevirtual 90, 3) := by decide +kernel
theorem dX9_changeHappy_13 : decode cX9_changeHappy 13 = .ok (.iload_n 2, 1) := by decide +kernel
theorem dX9_changeHappy_14 : decode cX9_changeHappy 14 = .ok (.iadd, 1) := by decide +kernel
theorem dX9_changeHappy_15 : decode cX9_changeHappy 15 = .ok (.invokestatic 115, 3) := by decide +kernel
theorem dX9_changeHappy_18 : decode cX9_changeHappy 18 = .ok (.invokevirtual 86, 3) := by decide +kernel
theorem dX9_changeHappy_21 : decode cX9_changeHappy 21 = .ok (.aload_n 0, 1) := by decide +kernel
theorem dX9_changeHappy_22 : decode cX9_changeHappy 22 = .ok (.getfield 32, 3) := by decide +kernel
theorem dX9_changeHappy_25 : decode cX9_changeHappy 25 = .ok (.iload_n 1, 1) := by decide +kernel
theorem dX9_changeHappy_26 : decode cX9_changeHappy 26 = .ok (.invokevirtual 90, 3) := by decide +kernel
theorem dX9_changeHappy_29 : decode cX9_changeHappy 29 = .ok (.ireturn, 1) := by decide +kernel
theorem dX9_spouseOf_0 : decode cX9_spouseOf 0 = .ok (.iconst 0, 1) := by decide +kernel
theorem dX9_spouseOf_1 : decode cX9_spouseOf 1 = .ok (.istore_n 2, 1) := by decide +kernel
theorem dX9_spouseOf_2 : decode cX9_spouseOf 2 = .ok (.iload_n 2, 1) := by decide +kernel
theorem dX9_spouseOf_3 : decode cX9_spouseOf 3 = .ok (.aload_n 0, 1) := by decide +kernel
theorem dX9_spouseOf_4 : decode cX9_spouseOf 4 = .ok (.getfield 65, 3) := by decide +kernel
theorem dX9_spouseOf_7 : decode cX9_spouseOf 7 = .ok (.if_icmp .ge 55, 3) := by decide +kernel
theorem dX9_spouseOf_10 : decode cX9_spouseOf 10 = .ok (.aload_n 0, 1) := by decide +kernel
theorem dX9_spouseOf_11 : decode cX9_spouseOf 11 = .ok (.iload_n 2, 1) := by decide +kernel
theorem dX9_spouseOf_12 : decode cX9_spouseOf 12 = .ok (.invokevirtual 118, 3) := by decide +kernel
theorem dX9_spouseOf_15 : decode cX9_spouseOf 15 = .ok (.ifCond .ne 18, 3) := by decide +kernel
theorem dX9_spouseOf_18 : decode cX9_spouseOf 18 = .ok (.aload_n 0, 1) := by decide +kernel
theorem dX9_spouseOf_19 : decode cX9_spouseOf 19 = .ok (.iload_n 2, 1) := by decide +kernel
theorem dX9_spouseOf_20 : decode cX9_spouseOf 20 = .ok (.invokevirtual 121, 3) := by decide +kernel
theorem dX9_spouseOf_23 : decode cX9_spouseOf 23 = .ok (.iload_n 1, 1) := by decide +kernel
theorem dX9_spouseOf_24 : decode cX9_spouseOf 24 = .ok (.if_icmp .ne 9, 3) := by decide +kernel
theorem dX9_spouseOf_27 : decode cX9_spouseOf 27 = .ok (.aload_n 0, 1) := by decide +kernel
theorem dX9_spouseOf_28 : decode cX9_spouseOf 28 = .ok (.iload_n 2, 1) := by decide +kernel
theorem dX9_spouseOf_29 : decode cX9_spouseOf 29 = .ok (.invokevirtual 124, 3) := by decide +kernel
theorem dX9_spouseOf_32 : decode cX9_spouseOf 32 = .ok (.ireturn, 1) := by decide +kernel
theorem dX9_spouseOf_33 : decode cX9_spouseOf 33 = .ok (.aload_n 0, 1) := by decide +kernel
theorem dX9_spouseOf_34 : decode cX9_spouseOf 34 = .ok (.iload_n 2, 1) := by decide +kernel
theorem dX9_spouseOf_35 : decode cX9_spouseOf 35 = .ok (.invokevirtual 118, 3) := by decide +kernel
theorem dX9_spouseOf_38 : decode cX9_spouseOf 38 = .ok (.ifCond .ne 18, 3) := by decide +kernel
theorem dX9_spouseOf_41 : decode cX9_spouseOf 41 = .ok (.aload_n 0, 1) := by decide +kernel
theorem dX9_spouseOf_42 : decode cX9_spouseOf 42 = .ok (.iload_n 2, 1) := by decide +kernel
theorem dX9_spouseOf_43 : decode cX9_spouseOf 43 = .ok (.invokevirtual 124, 3) := by decide +kernel
theorem dX9_spouseOf_46 : decode cX9_spouseOf 46 = .ok (.iload_n 1, 1) := by decide +kernel
theorem dX9_spouseOf_47 : decode cX9_spouseOf 47 = .ok (.if_icmp .ne 9, 3) := by decide +kernel
theorem dX9_spouseOf_50 : decode cX9_spouseOf 50 = .ok (.aload_n 0, 1) := by decide +kernel
theorem dX9_spouseOf_51 : decode cX9_spouseOf 51 = .ok (.iload_n 2, 1) := by decide +kernel
theorem dX9_spouseOf_52 : decode cX9_spouseOf 52 = .ok (.invokevirtual 121, 3) := by decide +kernel
theorem dX9_spouseOf_55 : decode cX9_spouseOf 55 = .ok (.ireturn, 1) := by decide +kernel
theorem dX9_spouseOf_56 : decode cX9_spouseOf 56 = .ok (.iinc 2 1, 3) := by decide +kernel
theorem dX9_spouseOf_59 : decode cX9_spouseOf 59 = .ok (.goto (-57), 3) := by decide +kernel
theorem dX9_spouseOf_62 : decode cX9_spouseOf 62 = .ok (.iconst (-1), 1) := by decide +kernel
theorem dX9_spouseOf_63 : decode cX9_spouseOf 63 = .ok (.ireturn, 1) := by decide +kernel
theorem dX9_isWed_0 : decode cX9_isWed 0 = .ok (.aload_n 0, 1) := by decide +kernel
theorem dX9_isWed_1 : decode cX9_isWed 1 = .ok (.iload_n 1, 1) := by decide +kernel
theorem dX9_isWed_2 : decode cX9_isWed 2 = .ok (.invokevirtual 127, 3) := by decide +kernel
theorem dX9_isWed_5 : decode cX9_isWed 5 = .ok (.iconst (-1), 1) := by decide +kernel
theorem dX9_isWed_6 : decode cX9_isWed 6 = .ok (.if_icmp .eq 7, 3) := by decide +kernel
theorem dX9_isWed_9 : decode cX9_isWed 9 = .ok (.iconst 1, 1) := by decide +kernel
theorem dX9_isWed_10 : decode cX9_isWed 10 = .ok (.goto 4, 3) := by decide +kernel
theorem dX9_isWed_13 : decode cX9_isWed 13 = .ok (.iconst 0, 1) := by decide +kernel
theorem dX9_isWed_14 : decode cX9_isWed 14 = .ok (.ireturn, 1) := by decide +kernel
theorem dX9_wedPeople_0 : decode cX9_wedPeople 0 = .ok (.iconst 0, 1) := by decide +kernel
theorem dX9_wedPeople_1 : decode cX9_wedPeople 1 = .ok (.istore_n 1, 1) := by decide +kernel
theorem dX9_wedPeople_2 : decode cX9_wedPeople 2 = .ok (.iconst 0, 1) := by decide +kernel
theorem dX9_wedPeople_3 : decode cX9_wedPeople 3 = .ok (.istore_n 2, 1) := by decide +kernel
theorem dX9_wedPeople_4 : decode cX9_wedPeople 4 = .ok (.iload_n 2, 1) := by decide +kernel
theorem dX9_wedPeople_5 : decode cX9_wedPeople 5 = .ok (.aload_n 0, 1) := by decide +kernel
theorem dX9_wedPeople_6 : decode cX9_wedPeople 6 = .ok (.getfield 62, 3) := by decide +kernel
theorem dX9_wedPeople_9 : decode cX9_wedPeople 9 = .ok (.if_icmp .ge 23, 3) := by decide +kernel
theorem dX9_wedPeople_12 : decode cX9_wedPeople 12 = .ok (.aload_n 0, 1) := by decide +kernel
theorem dX9_wedPeople_13 : decode cX9_wedPeople 13 = .ok (.iload_n 2, 1) := by decide +kernel
theorem dX9_wedPeople_14 : decode cX9_wedPeople 14 = .ok (.invokevirtual 130, 3) := by decide +kernel
theorem dX9_wedPeople_17 : decode cX9_wedPeople 17 = .ok (.ifCond .eq 9, 3) := by decide +kernel
theorem dX9_wedPeople_20 : decode cX9_wedPeople 20 = .ok (.iload_n 1, 1) := by decide +kernel
theorem dX9_wedPeople_21 : decode cX9_wedPeople 21 = .ok (.iconst 1, 1) := by decide +kernel
theorem dX9_wedPeople_22 : decode cX9_wedPeople 22 = .ok (.iload_n 2, 1) := by decide +kernel
theorem dX9_wedPeople_23 : decode cX9_wedPeople 23 = .ok (.ishl, 1) := by decide +kernel
theorem dX9_wedPeople_24 : decode cX9_wedPeople 24 = .ok (.ior, 1) := by decide +kernel
theorem dX9_wedPeople_25 : decode cX9_wedPeople 25 = .ok (.istore_n 1, 1) := by decide +kernel
theorem dX9_wedPeople_26 : decode cX9_wedPeople 26 = .ok (.iinc 2 1, 3) := by decide +kernel
theorem dX9_wedPeople_29 : decode cX9_wedPeople 29 = .ok (.goto (-25), 3) := by decide +kernel
theorem dX9_wedPeople_32 : decode cX9_wedPeople 32 = .ok (.iload_n 1, 1) := by decide +kernel
theorem dX9_wedPeople_33 : decode cX9_wedPeople 33 = .ok (.ireturn, 1) := by decide +kernel
theorem dX9_insurersOfPair_0 : decode cX9_insurersOfPair 0 = .ok (.iconst 0, 1) := by decide +kernel
theorem dX9_insurersOfPair_1 : decode cX9_insurersOfPair 1 = .ok (.istore_n 3, 1) := by decide +kernel
theorem dX9_insurersOfPair_2 : decode cX9_insurersOfPair 2 = .ok (.iconst 1, 1) := by decide +kernel
theorem dX9_insurersOfPair_3 : decode cX9_insurersOfPair 3 = .ok (.iload_n 1, 1) := by decide +kernel
theorem dX9_insurersOfPair_4 : decode cX9_insurersOfPair 4 = .ok (.ishl, 1) := by decide +kernel
theorem dX9_insurersOfPair_5 : decode cX9_insurersOfPair 5 = .ok (.iconst 1, 1) := by decide +kernel
theorem dX9_insurersOfPair_6 : decode cX9_insurersOfPair 6 = .ok (.iload_n 2, 1) := by decide +kernel
theorem dX9_insurersOfPair_7 : decode cX9_insurersOfPair 7 = .ok (.ishl, 1) := by decide +kernel
theorem dX9_insurersOfPair_8 : decode cX9_insurersOfPair 8 = .ok (.ior, 1) := by decide +kernel
theorem dX9_insurersOfPair_9 : decode cX9_insurersOfPair 9 = .ok (.istore 4, 2) := by decide +kernel
theorem dX9_insurersOfPair_11 : decode cX9_insurersOfPair 11 = .ok (.iconst 0, 1) := by decide +kernel
theorem dX9_insurersOfPair_12 : decode cX9_insurersOfPair 12 = .ok (.istore 5, 2) := by decide +kernel
theorem dX9_insurersOfPair_14 : decode cX9_insurersOfPair 14 = .ok (.iload 5, 2) := by decide +kernel
theorem dX9_insurersOfPair_16 : decode cX9_insurersOfPair 16 = .ok (.aload_n 0, 1) := by decide +kernel
theorem dX9_insurersOfPair_17 : decode cX9_insurersOfPair 17 = .ok (.getfield 62, 3) := by decide +kernel
theorem dX9_insurersOfPair_20 : decode cX9_insurersOfPair 20 = .ok (.if_icmp .ge 46, 3) := by decide +kernel
theorem dX9_insurersOfPair_23 : decode cX9_insurersOfPair 23 = .ok (.iload 4, 2) := by decide +kernel
theorem dX9_insurersOfPair_25 : decode cX9_insurersOfPair 25 = .ok (.aload_n 0, 1) := by decide +kernel
theorem dX9_insurersOfPair_26 : decode cX9_insurersOfPair 26 = .ok (.getfield 83, 3) := by decide +kernel
theorem dX9_insurersOfPair_29 : decode cX9_insurersOfPair 29 = .ok (.ior, 1) := by decide +kernel
theorem dX9_insurersOfPair_30 : decode cX9_insurersOfPair 30 = .ok (.iload 5, 2) := by decide +kernel
theorem dX9_insurersOfPair_32 : decode cX9_insurersOfPair 32 = .ok (.invokestatic 94, 3) := by decide +kernel
theorem dX9_insurersOfPair_35 : decode cX9_insurersOfPair 35 = .ok (.ifCond .ne 25, 3) := by decide +kernel
theorem dX9_insurersOfPair_38 : decode cX9_insurersOfPair 38 = .ok (.aload_n 0, 1) := by decide +kernel
theorem dX9_insurersOfPair_39 : decode cX9_insurersOfPair 39 = .ok (.getfield 20, 3) := by decide +kernel
theorem dX9_insurersOfPair_42 : decode cX9_insurersOfPair 42 = .ok (.iload 5, 2) := by decide +kernel
theorem dX9_insurersOfPair_44 : decode cX9_insurersOfPair 44 = .ok (.invokevirtual 90, 3) := by decide +kernel
theorem dX9_insurersOfPair_47 : decode cX9_insurersOfPair 47 = .ok (.iload 4, 2) := by decide +kernel
theorem dX9_insurersOfPair_49 : decode cX9_insurersOfPair 49 = .ok (.iand, 1) := by decide +kernel
theorem dX9_insurersOfPair_50 : decode cX9_insurersOfPair 50 = .ok (.ifCond .eq 10, 3) := by decide +kernel
