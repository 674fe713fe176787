theorem dX9_insurersOfPair_53 : decode cX9_insurersOfPair 53 = .ok (.iload_n 3, 1) := by decide +kernel
theorem dX9_insurersOfPair_54 : decode cX9_insurersOfPair 54 = .ok (.iconst 1, 1) := by decide +kernel
theorem dX9_insurersOfPair_55 : decode cX9_insurersOfPair 55 = .ok (.iload 5, 2) := by decide +kernel
theorem dX9_insurersOfPair_57 : decode cX9_insurersOfPair 57 = .ok (.ishl, 1) := by decide +kernel
theorem dX9_insurersOfPair_58 : decode cX9_insurersOfPair 58 = .ok (.ior, 1) := by decide +kernel
theorem dX9_insurersOfPair_59 : decode cX9_insurersOfPair 59 = .ok (.istore_n 3, 1) := by decide +kernel
theorem dX9_insurersOfPair_60 : decode cX9_insurersOfPair 60 = .ok (.iinc 5 1, 3) := by decide +kernel
theorem dX9_insurersOfPair_63 : decode cX9_insurersOfPair 63 = .ok (.goto (-49), 3) := by decide +kernel
theorem dX9_insurersOfPair_66 : decode cX9_insurersOfPair 66 = .ok (.iload_n 3, 1) := by decide +kernel
theorem dX9_insurersOfPair_67 : decode cX9_insurersOfPair 67 = .ok (.invokestatic 133, 3) := by decide +kernel
theorem dX9_insurersOfPair_70 : decode cX9_insurersOfPair 70 = .ok (.iconst 2, 1) := by decide +kernel
theorem dX9_insurersOfPair_71 : decode cX9_insurersOfPair 71 = .ok (.if_icmp .ge 7, 3) := by decide +kernel
theorem dX9_insurersOfPair_74 : decode cX9_insurersOfPair 74 = .ok (.iconst 0, 1) := by decide +kernel
theorem dX9_insurersOfPair_75 : decode cX9_insurersOfPair 75 = .ok (.goto 4, 3) := by decide +kernel
theorem dX9_insurersOfPair_78 : decode cX9_insurersOfPair 78 = .ok (.iload_n 3, 1) := by decide +kernel
theorem dX9_insurersOfPair_79 : decode cX9_insurersOfPair 79 = .ok (.ireturn, 1) := by decide +kernel
theorem dX9_insurersOf_0 : decode cX9_insurersOf 0 = .ok (.aload_n 0, 1) := by decide +kernel
theorem dX9_insurersOf_1 : decode cX9_insurersOf 1 = .ok (.iload_n 1, 1) := by decide +kernel
theorem dX9_insurersOf_2 : decode cX9_insurersOf 2 = .ok (.invokevirtual 118, 3) := by decide +kernel
theorem dX9_insurersOf_5 : decode cX9_insurersOf 5 = .ok (.ifCond .eq 7, 3) := by decide +kernel
theorem dX9_insurersOf_8 : decode cX9_insurersOf 8 = .ok (.iconst 0, 1) := by decide +kernel
theorem dX9_insurersOf_9 : decode cX9_insurersOf 9 = .ok (.goto 17, 3) := by decide +kernel
theorem dX9_insurersOf_12 : decode cX9_insurersOf 12 = .ok (.aload_n 0, 1) := by decide +kernel
theorem dX9_insurersOf_13 : decode cX9_insurersOf 13 = .ok (.aload_n 0, 1) := by decide +kernel
theorem dX9_insurersOf_14 : decode cX9_insurersOf 14 = .ok (.iload_n 1, 1) := by decide +kernel
theorem dX9_insurersOf_15 : decode cX9_insurersOf 15 = .ok (.invokevirtual 121, 3) := by decide +kernel
theorem dX9_insurersOf_18 : decode cX9_insurersOf 18 = .ok (.aload_n 0, 1) := by decide +kernel
theorem dX9_insurersOf_19 : decode cX9_insurersOf 19 = .ok (.iload_n 1, 1) := by decide +kernel
theorem dX9_insurersOf_20 : decode cX9_insurersOf 20 = .ok (.invokevirtual 124, 3) := by decide +kernel
theorem dX9_insurersOf_23 : decode cX9_insurersOf 23 = .ok (.invokevirtual 138, 3) := by decide +kernel
theorem dX9_insurersOf_26 : decode cX9_insurersOf 26 = .ok (.ireturn, 1) := by decide +kernel
theorem dX9_lookAt_0 : decode cX9_lookAt 0 = .ok (.aload_n 0, 1) := by decide +kernel
theorem dX9_lookAt_1 : decode cX9_lookAt 1 = .ok (.iload_n 1, 1) := by decide +kernel
theorem dX9_lookAt_2 : decode cX9_lookAt 2 = .ok (.invokevirtual 121, 3) := by decide +kernel
theorem dX9_lookAt_5 : decode cX9_lookAt 5 = .ok (.istore 4, 2) := by decide +kernel
theorem dX9_lookAt_7 : decode cX9_lookAt 7 = .ok (.aload_n 0, 1) := by decide +kernel
theorem dX9_lookAt_8 : decode cX9_lookAt 8 = .ok (.iload_n 1, 1) := by decide +kernel
theorem dX9_lookAt_9 : decode cX9_lookAt 9 = .ok (.invokevirtual 124, 3) := by decide +kernel
theorem dX9_lookAt_12 : decode cX9_lookAt 12 = .ok (.istore 5, 2) := by decide +kernel
theorem dX9_lookAt_14 : decode cX9_lookAt 14 = .ok (.aload_n 3, 1) := by decide +kernel
theorem dX9_lookAt_15 : decode cX9_lookAt 15 = .ok (.aload_n 0, 1) := by decide +kernel
theorem dX9_lookAt_16 : decode cX9_lookAt 16 = .ok (.getfield 32, 3) := by decide +kernel
theorem dX9_lookAt_19 : decode cX9_lookAt 19 = .ok (.iload_n 1, 1) := by decide +kernel
theorem dX9_lookAt_20 : decode cX9_lookAt 20 = .ok (.invokevirtual 90, 3) := by decide +kernel
theorem dX9_lookAt_23 : decode cX9_lookAt 23 = .ok (.putfield 142, 3) := by decide +kernel
theorem dX9_lookAt_26 : decode cX9_lookAt 26 = .ok (.aload_n 3, 1) := by decide +kernel
theorem dX9_lookAt_27 : decode cX9_lookAt 27 = .ok (.aload_n 0, 1) := by decide +kernel
theorem dX9_lookAt_28 : decode cX9_lookAt 28 = .ok (.getfield 35, 3) := by decide +kernel
theorem dX9_lookAt_31 : decode cX9_lookAt 31 = .ok (.iload_n 1, 1) := by decide +kernel
theorem dX9_lookAt_32 : decode cX9_lookAt 32 = .ok (.invokevirtual 90, 3) := by decide +kernel
theorem dX9_lookAt_35 : decode cX9_lookAt 35 = .ok (.putfield 146, 3) := by decide +kernel
theorem dX9_lookAt_38 : decode cX9_lookAt 38 = .ok (.aload_n 3, 1) := by decide +kernel
theorem dX9_lookAt_39 : decode cX9_lookAt 39 = .ok (.iload_n 2, 1) := by decide +kernel
theorem dX9_lookAt_40 : decode cX9_lookAt 40 = .ok (.putfield 149, 3) := by decide +kernel
theorem dX9_lookAt_43 : decode cX9_lookAt 43 = .ok (.aload_n 3, 1) := by decide +kernel
theorem dX9_lookAt_44 : decode cX9_lookAt 44 = .ok (.aload_n 0, 1) := by decide +kernel
theorem dX9_lookAt_45 : decode cX9_lookAt 45 = .ok (.iload_n 1, 1) := by decide +kernel
theorem dX9_lookAt_46 : decode cX9_lookAt 46 = .ok (.invokevirtual 150, 3) := by decide +kernel
theorem dX9_lookAt_49 : decode cX9_lookAt 49 = .ok (.invokestatic 133, 3) := by decide +kernel
theorem dX9_lookAt_52 : decode cX9_lookAt 52 = .ok (.putfield 153, 3) := by decide +kernel
theorem dX9_lookAt_55 : decode cX9_lookAt 55 = .ok (.aload_n 3, 1) := by decide +kernel
theorem dX9_lookAt_56 : decode cX9_lookAt 56 = .ok (.aload_n 0, 1) := by decide +kernel
theorem dX9_lookAt_57 : decode cX9_lookAt 57 = .ok (.iload 4, 2) := by decide +kernel
theorem dX9_lookAt_59 : decode cX9_lookAt 59 = .ok (.iload 5, 2) := by decide +kernel
theorem dX9_lookAt_61 : decode cX9_lookAt 61 = .ok (.invokevirtual 156, 3) := by decide +kernel
theorem dX9_lookAt_64 : decode cX9_lookAt 64 = .ok (.aload_n 0, 1) := by decide +kernel
theorem dX9_lookAt_65 : decode cX9_lookAt 65 = .ok (.iload 5, 2) := by decide +kernel
theorem dX9_lookAt_67 : decode cX9_lookAt 67 = .ok (.iload 4, 2) := by decide +kernel
theorem dX9_lookAt_69 : decode cX9_lookAt 69 = .ok (.invokevirtual 156, 3) := by decide +kernel
theorem dX9_lookAt_72 : decode cX9_lookAt 72 = .ok (.iadd, 1) := by decide +kernel
theorem dX9_lookAt_73 : decode cX9_lookAt 73 = .ok (.putfield 159, 3) := by decide +kernel
theorem dX9_lookAt_76 : decode cX9_lookAt 76 = .ok (.aload_n 3, 1) := by decide +kernel
theorem dX9_lookAt_77 : decode cX9_lookAt 77 = .ok (.aload_n 0, 1) := by decide +kernel
theorem dX9_lookAt_78 : decode cX9_lookAt 78 = .ok (.getfield 71, 3) := by decide +kernel
theorem dX9_lookAt_81 : decode cX9_lookAt 81 = .ok (.putfield 162, 3) := by decide +kernel
theorem dX9_lookAt_84 : decode cX9_lookAt 84 = .ok (.aload_n 3, 1) := by decide +kernel
theorem dX9_lookAt_85 : decode cX9_lookAt 85 = .ok (.aload_n 0, 1) := by decide +kernel
theorem dX9_lookAt_86 : decode cX9_lookAt 86 = .ok (.getfield 14, 3) := by decide +kernel
theorem dX9_lookAt_89 : decode cX9_lookAt 89 = .ok (.iload 4, 2) := by decide +kernel
theorem dX9_lookAt_91 : decode cX9_lookAt 91 = .ok (.invokevirtual 90, 3) := by decide +kernel
theorem dX9_lookAt_94 : decode cX9_lookAt 94 = .ok (.aload_n 0, 1) := by decide +kernel
theorem dX9_lookAt_95 : decode cX9_lookAt 95 = .ok (.getfield 14, 3) := by decide +kernel
theorem dX9_lookAt_98 : decode cX9_lookAt 98 = .ok (.iload 5, 2) := by decide +kernel
theorem dX9_lookAt_100 : decode cX9_lookAt 100 = .ok (.invokevirtual 90, 3) := by decide +kernel
theorem dX9_lookAt_103 : decode cX9_lookAt 103 = .ok (.iadd, 1) := by decide +kernel
theorem dX9_lookAt_104 : decode cX9_lookAt 104 = .ok (.bipush 99, 2) := by decide +kernel
theorem dX9_lookAt_106 : decode cX9_lookAt 106 = .ok (.if_icmp .le 7, 3) := by decide +kernel
theorem dX9_lookAt_109 : decode cX9_lookAt 109 = .ok (.iconst 1, 1) := by decide +kernel
theorem dX9_lookAt_110 : decode cX9_lookAt 110 = .ok (.goto 4, 3) := by decide +kernel
theorem dX9_lookAt_113 : decode cX9_lookAt 113 = .ok (.iconst 0, 1) := by decide +kernel
theorem dX9_lookAt_114 : decode cX9_lookAt 114 = .ok (.putfield 163, 3) := by decide +kernel
theorem dX9_lookAt_117 : decode cX9_lookAt 117 = .ok (.return_, 1) := by decide +kernel
theorem dX9_passMonth_0 : decode cX9_passMonth 0 = .ok (.aload_n 0, 1) := by decide +kernel
theorem dX9_passMonth_1 : decode cX9_passMonth 1 = .ok (.ldc 167, 2) := by decide +kernel
theorem dX9_passMonth_3 : decode cX9_passMonth 3 = .ok (.aload_n 0, 1) := by decide +kernel
theorem dX9_passMonth_4 : decode cX9_passMonth 4 = .ok (.getfield 51, 3) := by decide +kernel
theorem dX9_passMonth_7 : decode cX9_passMonth 7 = .ok (.imul, 1) := by decide +kernel
theorem dX9_passMonth_8 : decode cX9_passMonth 8 = .ok (.sipush 12345, 3) := by decide +kernel
theorem dX9_passMonth_11 : decode cX9_passMonth 11 = .ok (.iadd, 1) := by decide +kernel
theorem dX9_passMonth_12 : decode cX9_passMonth 12 = .ok (.putfield 51, 3) := by decide +kernel
theorem dX9_passMonth_15 : decode cX9_passMonth 15 = .ok (.aload_n 0, 1) := by decide +kernel
theorem dX9_passMonth_16 : decode cX9_passMonth 16 = .ok (.aload_n 0, 1) := by decide +kernel
theorem dX9_passMonth_17 : decode cX9_passMonth 17 = .ok (.getfield 51, 3) := by decide +kernel
theorem dX9_passMonth_20 : decode cX9_passMonth 20 = .ok (.bipush 16, 2) := by decide +kernel
theorem dX9_passMonth_22 : decode cX9_passMonth 22 = .ok (.ishr, 1) := by decide +kernel
theorem dX9_passMonth_23 : decode cX9_passMonth 23 = .ok (.sipush 32767, 3) := by decide +kernel
theorem dX9_passMonth_26 : decode cX9_passMonth 26 = .ok (.iand, 1) := by decide +kernel
theorem dX9_passMonth_27 : decode cX9_passMonth 27 = .ok (.bipush 10, 2) := by decide +kernel
theorem dX9_passMonth_29 : decode cX9_passMonth 29 = .ok (.irem, 1) := by decide +kernel
theorem dX9_passMonth_30 : decode cX9_passMonth 30 = .ok (.putfield 74, 3) := by decide +kernel
theorem dX9_passMonth_33 : decode cX9_passMonth 33 = .ok (.iconst 0, 1) := by decide +kernel
theorem dX9_passMonth_34 : decode cX9_passMonth 34 = .ok (.istore_n 3, 1) := by decide +kernel
theorem dX9_passMonth_35 : decode cX9_passMonth 35 = .ok (.iload_n 3, 1) := by decide +kernel
theorem dX9_passMonth_36 : decode cX9_passMonth 36 = .ok (.aload_n 0, 1) := by decide +kernel
theorem dX9_passMonth_37 : decode cX9_passMonth 37 = .ok (.getfield 65, 3) := by decide +kernel
theorem dX9_passMonth_40 : decode cX9_passMonth 40 = .ok (.if_icmp .ge 24, 3) := by decide +kernel
theorem dX9_passMonth_43 : decode cX9_passMonth 43 = .ok (.aload_n 0, 1) := by decide +kernel
theorem dX9_passMonth_44 : decode cX9_passMonth 44 = .ok (.iload_n 3, 1) := by decide +kernel
theorem dX9_passMonth_45 : decode cX9_passMonth 45 = .ok (.invokevirtual 118, 3) := by decide +kernel
theorem dX9_passMonth_48 : decode cX9_passMonth 48 = .ok (.ifCond .ne 10, 3) := by decide +kernel
theorem dX9_passMonth_51 : decode cX9_passMonth 51 = .ok (.aload_n 0, 1) := by decide +kernel
theorem dX9_passMonth_52 : decode cX9_passMonth 52 = .ok (.iload_n 3, 1) := by decide +kernel
theorem dX9_passMonth_53 : decode cX9_passMonth 53 = .ok (.aload_n 1, 1) := by decide +kernel
theorem dX9_passMonth_54 : decode cX9_passMonth 54 = .ok (.aload_n 2, 1) := by decide +kernel
theorem dX9_passMonth_55 : decode cX9_passMonth 55 = .ok (.invokevirtual 168, 3) := by decide +kernel
theorem dX9_passMonth_58 : decode cX9_passMonth 58 = .ok (.iinc 3 1, 3) := by decide +kernel
theorem dX9_passMonth_61 : decode cX9_passMonth 61 = .ok (.goto (-26), 3) := by decide +kernel
theorem dX9_passMonth_64 : decode cX9_passMonth 64 = .ok (.aload_n 0, 1) := by decide +kernel
theorem dX9_passMonth_65 : decode cX9_passMonth 65 = .ok (.sipush 9999, 3) := by decide +kernel
theorem dX9_passMonth_68 : decode cX9_passMonth 68 = .ok (.aload_n 0, 1) := by decide +kernel
theorem dX9_passMonth_69 : decode cX9_passMonth 69 = .ok (.getfield 71, 3) := by decide +kernel
theorem dX9_passMonth_72 : decode cX9_passMonth 72 = .ok (.iconst 1, 1) := by decide +kernel
theorem dX9_passMonth_73 : decode cX9_passMonth 73 = .ok (.iadd, 1) := by decide +kernel
theorem dX9_passMonth_74 : decode cX9_passMonth 74 = .ok (.invokestatic 172, 3) := by decide +kernel
theorem dX9_passMonth_77 : decode cX9_passMonth 77 = .ok (.putfield 71, 3) := by decide +kernel
theorem dX9_passMonth_80 : decode cX9_passMonth 80 = .ok (.return_, 1) := by decide +kernel
theorem dX9_passMatch_0 : decode cX9_passMatch 0 = .ok (.aload_n 0, 1) := by decide +kernel
theorem dX9_passMatch_1 : decode cX9_passMatch 1 = .ok (.iload_n 1, 1) := by decide +kernel
theorem dX9_passMatch_2 : decode cX9_passMatch 2 = .ok (.invokevirtual 177, 3) := by decide +kernel
theorem dX9_passMatch_5 : decode cX9_passMatch 5 = .ok (.aload_n 0, 1) := by decide +kernel
theorem dX9_passMatch_6 : decode cX9_passMatch 6 = .ok (.iload_n 1, 1) := by decide +kernel
theorem dX9_passMatch_7 : decode cX9_passMatch 7 = .ok (.aload_n 0, 1) := by decide +kernel
theorem dX9_passMatch_8 : decode cX9_passMatch 8 = .ok (.getfield 74, 3) := by decide +kernel
theorem dX9_passMatch_11 : decode cX9_passMatch 11 = .ok (.aload_n 3, 1) := by decide +kernel
theorem dX9_passMatch_12 : decode cX9_passMatch 12 = .ok (.invokevirtual 180, 3) := by decide +kernel
theorem dX9_passMatch_15 : decode cX9_passMatch 15 = .ok (.aload_n 0, 1) := by decide +kernel
theorem dX9_passMatch_16 : decode cX9_passMatch 16 = .ok (.getfield 32, 3) := by decide +kernel
theorem dX9_passMatch_19 : decode cX9_passMatch 19 = .ok (.iload_n 1, 1) := by decide +kernel
theorem dX9_passMatch_20 : decode cX9_passMatch 20 = .ok (.aload_n 3, 1) := by decide +kernel
theorem dX9_passMatch_21 : decode cX9_passMatch 21 = .ok (.aload_n 2, 1) := by decide +kernel
theorem dX9_passMatch_22 : decode cX9_passMatch 22 = .ok (.invokevirtual 184, 3) := by decide +kernel
theorem dX9_passMatch_25 : decode cX9_passMatch 25 = .ok (.invokevirtual 86, 3) := by decide +kernel
theorem dX9_passMatch_28 : decode cX9_passMatch 28 = .ok (.aload_n 0, 1) := by decide +kernel
theorem dX9_passMatch_29 : decode cX9_passMatch 29 = .ok (.getfield 35, 3) := by decide +kernel
theorem dX9_passMatch_32 : decode cX9_passMatch 32 = .ok (.iload_n 1, 1) := by decide +kernel
theorem dX9_passMatch_33 : decode cX9_passMatch 33 = .ok (.aload_n 0, 1) := by decide +kernel
theorem dX9_passMatch_34 : decode cX9_passMatch 34 = .ok (.getfield 35, 3) := by decide +kernel
theorem dX9_passMatch_37 : decode cX9_passMatch 37 = .ok (.iload_n 1, 1) := by decide +kernel
theorem dX9_passMatch_38 : decode cX9_passMatch 38 = .ok (.invokevirtual 90, 3) := by decide +kernel
theorem dX9_passMatch_41 : decode cX9_passMatch 41 = .ok (.iconst 1, 1) := by decide +kernel
theorem dX9_passMatch_42 : decode cX9_passMatch 42 = .ok (.iadd, 1) := by decide +kernel
theorem dX9_passMatch_43 : decode cX9_passMatch 43 = .ok (.invokevirtual 86, 3) := by decide +kernel
theorem dX9_passMatch_46 : decode cX9_passMatch 46 = .ok (.aload_n 0, 1) := by decide +kernel
theorem dX9_passMatch_47 : decode cX9_passMatch 47 = .ok (.getfield 32, 3) := by decide +kernel
theorem dX9_passMatch_50 : decode cX9_passMatch 50 = .ok (.iload_n 1, 1) := by decide +kernel
theorem dX9_passMatch_51 : decode cX9_passMatch 51 = .ok (.invokevirtual 90, 3) := by decide +kernel
theorem dX9_passMatch_54 : decode cX9_passMatch 54 = .ok (.aload_n 0, 1) := by decide +kernel
theorem dX9_passMatch_55 : decode cX9_passMatch 55 = .ok (.getfield 41, 3) := by decide +kernel
theorem dX9_passMatch_58 : decode cX9_passMatch 58 = .ok (.if_icmp .ge 22, 3) := by decide +kernel
theorem dX9_passMatch_61 : decode cX9_passMatch 61 = .ok (.aload_n 0, 1) := by decide +kernel
theorem dX9_passMatch_62 : decode cX9_passMatch 62 = .ok (.iload_n 1, 1) := by decide +kernel
theorem dX9_passMatch_63 : decode cX9_passMatch 63 = .ok (.invokevirtual 150, 3) := by decide +kernel
theorem dX9_passMatch_66 : decode cX9_passMatch 66 = .ok (.istore 4, 2) := by decide +kernel
theorem dX9_passMatch_68 : decode cX9_passMatch 68 = .ok (.aload_n 0, 1) := by decide +kernel
theorem dX9_passMatch_69 : decode cX9_passMatch 69 = .ok (.iload_n 1, 1) := by decide +kernel
theorem dX9_passMatch_70 : decode cX9_passMatch 70 = .ok (.aload_n 0, 1) := by decide +kernel
theorem dX9_passMatch_71 : decode cX9_passMatch 71 = .ok (.iload_n 1, 1) := by decide +kernel
theorem dX9_passMatch_72 : decode cX9_passMatch 72 = .ok (.invokevirtual 188, 3) := by decide +kernel
theorem dX9_passMatch_75 : decode cX9_passMatch 75 = .ok (.iload 4, 2) := by decide +kernel
theorem dX9_passMatch_77 : decode cX9_passMatch 77 = .ok (.invokevirtual 191, 3) := by decide +kernel
theorem dX9_passMatch_80 : decode cX9_passMatch 80 = .ok (.aload_n 0, 1) := by decide +kernel
theorem dX9_passMatch_81 : decode cX9_passMatch 81 = .ok (.getfield 32, 3) := by decide +kernel
theorem dX9_passMatch_84 : decode cX9_passMatch 84 = .ok (.iload_n 1, 1) := by decide +kernel
theorem dX9_passMatch_85 : decode cX9_passMatch 85 = .ok (.invokevirtual 90, 3) := by decide +kernel
theorem dX9_passMatch_88 : decode cX9_passMatch 88 = .ok (.ifCond .ne 8, 3) := by decide +kernel
theorem dX9_passMatch_91 : decode cX9_passMatch 91 = .ok (.aload_n 0, 1) := by decide +kernel
theorem dX9_passMatch_92 : decode cX9_passMatch 92 = .ok (.iload_n 1, 1) := by decide +kernel
theorem dX9_passMatch_93 : decode cX9_passMatch 93 = .ok (.invokevirtual 195, 3) := by decide +kernel
theorem dX9_passMatch_96 : decode cX9_passMatch 96 = .ok (.return_, 1) := by decide +kernel
theorem dX9_payPremiums_0 : decode cX9_payPremiums 0 = .ok (.aload_n 0, 1) := by decide +kernel
theorem dX9_payPremiums_1 : decode cX9_payPremiums 1 = .ok (.iload_n 1, 1) := by decide +kernel
theorem dX9_payPremiums_2 : decode cX9_payPremiums 2 = .ok (.invokevirtual 150, 3) := by decide +kernel
theorem dX9_payPremiums_5 : decode cX9_payPremiums 5 = .ok (.istore_n 2, 1) := by decide +kernel
theorem dX9_payPremiums_6 : decode cX9_payPremiums 6 = .ok (.iconst 0, 1) := by decide +kernel
theorem dX9_payPremiums_7 : decode cX9_payPremiums 7 = .ok (.istore_n 3, 1) := by decide +kernel
theorem dX9_payPremiums_8 : decode cX9_payPremiums 8 = .ok (.iload_n 3, 1) := by decide +kernel
theorem dX9_payPremiums_9 : decode cX9_payPremiums 9 = .ok (.aload_n 0, 1) := by decide +kernel
theorem dX9_payPremiums_10 : decode cX9_payPremiums 10 = .ok (.getfield 62, 3) := by decide +kernel
theorem dX9_payPremiums_13 : decode cX9_payPremiums 13 = .ok (.if_icmp .ge 60, 3) := by decide +kernel
theorem dX9_payPremiums_16 : decode cX9_payPremiums 16 = .ok (.iload_n 2, 1) := by decide +kernel
theorem dX9_payPremiums_17 : decode cX9_payPremiums 17 = .ok (.iload_n 3, 1) := by decide +kernel
theorem dX9_payPremiums_18 : decode cX9_payPremiums 18 = .ok (.invokestatic 94, 3) := by decide +kernel
theorem dX9_payPremiums_21 : decode cX9_payPremiums 21 = .ok (.ifCond .eq 46, 3) := by decide +kernel
theorem dX9_payPremiums_24 : decode cX9_payPremiums 24 = .ok (.aload_n 0, 1) := by decide +kernel
theorem dX9_payPremiums_25 : decode cX9_payPremiums 25 = .ok (.aload_n 0, 1) := by decide +kernel
theorem dX9_payPremiums_26 : decode cX9_payPremiums 26 = .ok (.iload_n 1, 1) := by decide +kernel
theorem dX9_payPremiums_27 : decode cX9_payPremiums 27 = .ok (.invokevirtual 121, 3) := by decide +kernel
theorem dX9_payPremiums_30 : decode cX9_payPremiums 30 = .ok (.aload_n 0, 1) := by decide +kernel
theorem dX9_payPremiums_31 : decode cX9_payPremiums 31 = .ok (.getfield 45, 3) := by decide +kernel
theorem dX9_payPremiums_34 : decode cX9_payPremiums 34 = .ok (.invokevirtual 198, 3) := by decide +kernel
theorem dX9_payPremiums_37 : decode cX9_payPremiums 37 = .ok (.istore 4, 2) := by decide +kernel
theorem dX9_payPremiums_39 : decode cX9_payPremiums 39 = .ok (.aload_n 0, 1) := by decide +kernel
theorem dX9_payPremiums_40 : decode cX9_payPremiums 40 = .ok (.aload_n 0, 1) := by decide +kernel
theorem dX9_payPremiums_41 : decode cX9_payPremiums 41 = .ok (.iload_n 1, 1) := by decide +kernel
theorem dX9_payPremiums_42 : decode cX9_payPremiums 42 = .ok (.invokevirtual 124, 3) := by decide +kernel
theorem dX9_payPremiums_45 : decode cX9_payPremiums 45 = .ok (.aload_n 0, 1) := by decide +kernel
theorem dX9_payPremiums_46 : decode cX9_payPremiums 46 = .ok (.getfield 45, 3) := by decide +kernel
theorem dX9_payPremiums_49 : decode cX9_payPremiums 49 = .ok (.iload 4, 2) := by decide +kernel
theorem dX9_payPremiums_51 : decode cX9_payPremiums 51 = .ok (.isub, 1) := by decide +kernel
theorem dX9_payPremiums_52 : decode cX9_payPremiums 52 = .ok (.invokevirtual 198, 3) := by decide +kernel
theorem dX9_payPremiums_55 : decode cX9_payPremiums 55 = .ok (.istore 5, 2) := by decide +kernel
theorem dX9_payPremiums_57 : decode cX9_payPremiums 57 = .ok (.aload_n 0, 1) := by decide +kernel
theorem dX9_payPremiums_58 : decode cX9_payPremiums 58 = .ok (.iload_n 3, 1) := by decide +kernel
theorem dX9_payPremiums_59 : decode cX9_payPremiums 59 = .ok (.iload 4, 2) := by decide +kernel
theorem dX9_payPremiums_61 : decode cX9_payPremiums 61 = .ok (.iload 5, 2) := by decide +kernel
theorem dX9_payPremiums_63 : decode cX9_payPremiums 63 = .ok (.iadd, 1) := by decide +kernel
theorem dX9_payPremiums_64 : decode cX9_payPremiums 64 = .ok (.invokevirtual 201, 3) := by decide +kernel
theorem dX9_payPremiums_67 : decode cX9_payPremiums 67 = .ok (.iinc 3 1, 3) := by decide +kernel
theorem dX9_payPremiums_70 : decode cX9_payPremiums 70 = .ok (.goto (-62), 3) := by decide +kernel
theorem dX9_payPremiums_73 : decode cX9_payPremiums 73 = .ok (.return_, 1) := by decide +kernel
theorem dX9_payClaim_0 : decode cX9_payClaim 0 = .ok (.aload_n 0, 1) := by decide +kernel
theorem dX9_payClaim_1 : decode cX9_payClaim 1 = .ok (.iload_n 1, 1) := by decide +kernel
theorem dX9_payClaim_2 : decode cX9_payClaim 2 = .ok (.invokevirtual 150, 3) := by decide +kernel
theorem dX9_payClaim_5 : decode cX9_payClaim 5 = .ok (.istore_n 2, 1) := by decide +kernel
theorem dX9_payClaim_6 : decode cX9_payClaim 6 = .ok (.iconst 0, 1) := by decide +kernel
theorem dX9_payClaim_7 : decode cX9_payClaim 7 = .ok (.istore_n 3, 1) := by decide +kernel
theorem dX9_payClaim_8 : decode cX9_payClaim 8 = .ok (.iconst 0, 1) := by decide +kernel
theorem dX9_payClaim_9 : decode cX9_payClaim 9 = .ok (.istore 4, 2) := by decide +kernel
theorem dX9_payClaim_11 : decode cX9_payClaim 11 = .ok (.iload 4, 2) := by decide +kernel
theorem dX9_payClaim_13 : decode cX9_payClaim 13 = .ok (.aload_n 0, 1) := by decide +kernel
theorem dX9_payClaim_14 : decode cX9_payClaim 14 = .ok (.getfield 62, 3) := by decide +kernel
theorem dX9_payClaim_17 : decode cX9_payClaim 17 = .ok (.if_icmp .ge 27, 3) := by decide +kernel
theorem dX9_payClaim_20 : decode cX9_payClaim 20 = .ok (.iload_n 2, 1) := by decide +kernel
theorem dX9_payClaim_21 : decode cX9_payClaim 21 = .ok (.iload 4, 2) := by decide +kernel
theorem dX9_payClaim_23 : decode cX9_payClaim 23 = .ok (.invokestatic 94, 3) := by decide +kernel
theorem dX9_payClaim_26 : decode cX9_payClaim 26 = .ok (.ifCond .eq 12, 3) := by decide +kernel
theorem dX9_payClaim_29 : decode cX9_payClaim 29 = .ok (.iload_n 3, 1) := by decide +kernel
theorem dX9_payClaim_30 : decode cX9_payClaim 30 = .ok (.aload_n 0, 1) := by decide +kernel
theorem dX9_payClaim_31 : decode cX9_payClaim 31 = .ok (.iload 4, 2) := by decide +kernel
theorem dX9_payClaim_33 : decode cX9_payClaim 33 = .ok (.invokevirtual 204, 3) := by decide +kernel
theorem dX9_payClaim_36 : decode cX9_payClaim 36 = .ok (.iadd, 1) := by decide +kernel
theorem dX9_payClaim_37 : decode cX9_payClaim 37 = .ok (.istore_n 3, 1) := by decide +kernel
theorem dX9_payClaim_38 : decode cX9_payClaim 38 = .ok (.iinc 4 1, 3) := by decide +kernel
theorem dX9_payClaim_41 : decode cX9_payClaim 41 = .ok (.goto (-30), 3) := by decide +kernel
theorem dX9_payClaim_44 : decode cX9_payClaim 44 = .ok (.aload_n 0, 1) := by decide +kernel
theorem dX9_payClaim_45 : decode cX9_payClaim 45 = .ok (.aload_n 0, 1) := by decide +kernel
theorem dX9_payClaim_46 : decode cX9_payClaim 46 = .ok (.iload_n 1, 1) := by decide +kernel
theorem dX9_payClaim_47 : decode cX9_payClaim 47 = .ok (.invokevirtual 121, 3) := by decide +kernel
theorem dX9_payClaim_50 : decode cX9_payClaim 50 = .ok (.iload_n 3, 1) := by decide +kernel
theorem dX9_payClaim_51 : decode cX9_payClaim 51 = .ok (.iconst 2, 1) := by decide +kernel
theorem dX9_payClaim_52 : decode cX9_payClaim 52 = .ok (.idiv, 1) := by decide +kernel
theorem dX9_payClaim_53 : decode cX9_payClaim 53 = .ok (.invokevirtual 201, 3) := by decide +kernel
theorem dX9_payClaim_56 : decode cX9_payClaim 56 = .ok (.aload_n 0, 1) := by decide +kernel
theorem dX9_payClaim_57 : decode cX9_payClaim 57 = .ok (.aload_n 0, 1) := by decide +kernel
theorem dX9_payClaim_58 : decode cX9_payClaim 58 = .ok (.iload_n 1, 1) := by decide +kernel
theorem dX9_payClaim_59 : decode cX9_payClaim 59 = .ok (.invokevirtual 124, 3) := by decide +kernel
theorem dX9_payClaim_62 : decode cX9_payClaim 62 = .ok (.iload_n 3, 1) := by decide +kernel
theorem dX9_payClaim_63 : decode cX9_payClaim 63 = .ok (.iload_n 3, 1) := by decide +kernel
theorem dX9_payClaim_64 : decode cX9_payClaim 64 = .ok (.iconst 2, 1) := by decide +kernel
theorem dX9_payClaim_65 : decode cX9_payClaim 65 = .ok (.idiv, 1) := by decide +kernel
theorem dX9_payClaim_66 : decode cX9_payClaim 66 = .ok (.isub, 1) := by decide +kernel
theorem dX9_payClaim_67 : decode cX9_payClaim 67 = .ok (.invokevirtual 201, 3) := by decide +kernel
theorem dX9_payClaim_70 : decode cX9_payClaim 70 = .ok (.iload_n 3, 1) := by decide +kernel
theorem dX9_payClaim_71 : decode cX9_payClaim 71 = .ok (.ireturn, 1) := by decide +kernel
theorem dX9_payOut_0 : decode cX9_payOut 0 = .ok (.aload_n 0, 1) := by decide +kernel
theorem dX9_payOut_1 : decode cX9_payOut 1 = .ok (.getfield 23, 3) := by decide +kernel
theorem dX9_payOut_4 : decode cX9_payOut 4 = .ok (.iload_n 1, 1) := by decide +kernel
theorem dX9_payOut_5 : decode cX9_payOut 5 = .ok (.invokevirtual 90, 3) := by decide +kernel
theorem dX9_payOut_8 : decode cX9_payOut 8 = .ok (.istore_n 2, 1) := by decide +kernel
theorem dX9_payOut_9 : decode cX9_payOut 9 = .ok (.iload_n 2, 1) := by decide +kernel
theorem dX9_payOut_10 : decode cX9_payOut 10 = .ok (.iconst (-1), 1) := by decide +kernel
theorem dX9_payOut_11 : decode cX9_payOut 11 = .ok (.if_icmp .eq 38, 3) := by decide +kernel
theorem dX9_payOut_14 : decode cX9_payOut 14 = .ok (.aload_n 0, 1) := by decide +kernel
theorem dX9_payOut_15 : decode cX9_payOut 15 = .ok (.iload_n 2, 1) := by decide +kernel
theorem dX9_payOut_16 : decode cX9_payOut 16 = .ok (.invokevirtual 102, 3) := by decide +kernel
theorem dX9_payOut_19 : decode cX9_payOut 19 = .ok (.ifCond .ne 30, 3) := by decide +kernel
theorem dX9_payOut_22 : decode cX9_payOut 22 = .ok (.aload_n 0, 1) := by decide +kernel
theorem dX9_payOut_23 : decode cX9_payOut 23 = .ok (.iload_n 2, 1) := by decide +kernel
theorem dX9_payOut_24 : decode cX9_payOut 24 = .ok (.aload_n 0, 1) := by decide +kernel
theorem dX9_payOut_25 : decode cX9_payOut 25 = .ok (.getfield 48, 3) := by decide +kernel
theorem dX9_payOut_28 : decode cX9_payOut 28 = .ok (.iconst 2, 1) := by decide +kernel
theorem dX9_payOut_29 : decode cX9_payOut 29 = .ok (.idiv, 1) := by decide +kernel
theorem dX9_payOut_30 : decode cX9_payOut 30 = .ok (.invokevirtual 207, 3) := by decide +kernel
theorem dX9_payOut_33 : decode cX9_payOut 33 = .ok (.aload_n 0, 1) := by decide +kernel
theorem dX9_payOut_34 : decode cX9_payOut 34 = .ok (.iload_n 1, 1) := by decide +kernel
theorem dX9_payOut_35 : decode cX9_payOut 35 = .ok (.aload_n 0, 1) := by decide +kernel
theorem dX9_payOut_36 : decode cX9_payOut 36 = .ok (.iload_n 2, 1) := by decide +kernel
theorem dX9_payOut_37 : decode cX9_payOut 37 = .ok (.aload_n 0, 1) := by decide +kernel
theorem dX9_payOut_38 : decode cX9_payOut 38 = .ok (.getfield 48, 3) := by decide +kernel
theorem dX9_payOut_41 : decode cX9_payOut 41 = .ok (.iconst 2, 1) := by decide +kernel
theorem dX9_payOut_42 : decode cX9_payOut 42 = .ok (.idiv, 1) := by decide +kernel
theorem dX9_payOut_43 : decode cX9_payOut 43 = .ok (.invokevirtual 198, 3) := by decide +kernel
theorem dX9_payOut_46 : decode cX9_payOut 46 = .ok (.invokevirtual 201, 3) := by decide +kernel
theorem dX9_payOut_49 : decode cX9_payOut 49 = .ok (.aload_n 0, 1) := by decide +kernel
theorem dX9_payOut_50 : decode cX9_payOut 50 = .ok (.iload_n 1, 1) := by decide +kernel
theorem dX9_payOut_51 : decode cX9_payOut 51 = .ok (.aload_n 0, 1) := by decide +kernel
theorem dX9_payOut_52 : decode cX9_payOut 52 = .ok (.getfield 48, 3) := by decide +kernel
theorem dX9_payOut_55 : decode cX9_payOut 55 = .ok (.invokevirtual 207, 3) := by decide +kernel
theorem dX9_payOut_58 : decode cX9_payOut 58 = .ok (.aload_n 0, 1) := by decide +kernel
theorem dX9_payOut_59 : decode cX9_payOut 59 = .ok (.iload_n 1, 1) := by decide +kernel
theorem dX9_payOut_60 : decode cX9_payOut 60 = .ok (.aload_n 0, 1) := by decide +kernel
theorem dX9_payOut_61 : decode cX9_payOut 61 = .ok (.getfield 48, 3) := by decide +kernel
theorem dX9_payOut_64 : decode cX9_payOut 64 = .ok (.invokevirtual 198, 3) := by decide +kernel
theorem dX9_payOut_67 : decode cX9_payOut 67 = .ok (.ireturn, 1) := by decide +kernel
theorem dX9_ruinIfShort_0 : decode cX9_ruinIfShort 0 = .ok (.aload_n 0, 1) := by decide +kernel
theorem dX9_ruinIfShort_1 : decode cX9_ruinIfShort 1 = .ok (.getfield 14, 3) := by decide +kernel
theorem dX9_ruinIfShort_4 : decode cX9_ruinIfShort 4 = .ok (.iload_n 1, 1) := by decide +kernel
theorem dX9_ruinIfShort_5 : decode cX9_ruinIfShort 5 = .ok (.invokevirtual 90, 3) := by decide +kernel
theorem dX9_ruinIfShort_8 : decode cX9_ruinIfShort 8 = .ok (.iload_n 2, 1) := by decide +kernel
theorem dX9_ruinIfShort_9 : decode cX9_ruinIfShort 9 = .ok (.if_icmp .ge 15, 3) := by decide +kernel
theorem dX9_ruinIfShort_12 : decode cX9_ruinIfShort 12 = .ok (.aload_n 0, 1) := by decide +kernel
theorem dX9_ruinIfShort_13 : decode cX9_ruinIfShort 13 = .ok (.dup, 1) := by decide +kernel
theorem dX9_ruinIfShort_14 : decode cX9_ruinIfShort 14 = .ok (.getfield 83, 3) := by decide +kernel
theorem dX9_ruinIfShort_17 : decode cX9_ruinIfShort 17 = .ok (.iconst 1, 1) := by decide +kernel
theorem dX9_ruinIfShort_18 : decode cX9_ruinIfShort 18 = .ok (.iload_n 1, 1) := by decide +kernel
theorem dX9_ruinIfShort_19 : decode cX9_ruinIfShort 19 = .ok (.ishl, 1) := by decide +kernel
theorem dX9_ruinIfShort_20 : decode cX9_ruinIfShort 20 = .ok (.ior, 1) := by decide +kernel
theorem dX9_ruinIfShort_21 : decode cX9_ruinIfShort 21 = .ok (.putfield 83, 3) := by decide +kernel
theorem dX9_ruinIfShort_24 : decode cX9_ruinIfShort 24 = .ok (.return_, 1) := by decide +kernel
theorem dX9_take_0 : decode cX9_take 0 = .ok (.aload_n 0, 1) := by decide +kernel
theorem dX9_take_1 : decode cX9_take 1 = .ok (.getfield 14, 3) := by decide +kernel
theorem dX9_take_4 : decode cX9_take 4 = .ok (.iload_n 1, 1) := by decide +kernel
theorem dX9_take_5 : decode cX9_take 5 = .ok (.invokevirtual 90, 3) := by decide +kernel
theorem dX9_take_8 : decode cX9_take 8 = .ok (.iload_n 2, 1) := by decide +kernel
theorem dX9_take_9 : decode cX9_take 9 = .ok (.invokestatic 172, 3) := by decide +kernel
theorem dX9_take_12 : decode cX9_take 12 = .ok (.istore_n 3, 1) := by decide +kernel
theorem dX9_take_13 : decode cX9_take 13 = .ok (.aload_n 0, 1) := by decide +kernel
theorem dX9_take_14 : decode cX9_take 14 = .ok (.getfield 14, 3) := by decide +kernel
theorem dX9_take_17 : decode cX9_take 17 = .ok (.iload_n 1, 1) := by decide +kernel
theorem dX9_take_18 : decode cX9_take 18 = .ok (.aload_n 0, 1) := by decide +kernel
theorem dX9_take_19 : decode cX9_take 19 = .ok (.getfield 14, 3) := by decide +kernel
theorem dX9_take_22 : decode cX9_take 22 = .ok (.iload_n 1, 1) := by decide +kernel
theorem dX9_take_23 : decode cX9_take 23 = .ok (.invokevirtual 90, 3) := by decide +kernel
theorem dX9_take_26 : decode cX9_take 26 = .ok (.iload_n 3, 1) := by decide +kernel
theorem dX9_take_27 : decode cX9_take 27 = .ok (.isub, 1) := by decide +kernel
theorem dX9_take_28 : decode cX9_take 28 = .ok (.invokevirtual 86, 3) := by decide +kernel
theorem dX9_take_31 : decode cX9_take 31 = .ok (.iload_n 3, 1) := by decide +kernel
theorem dX9_take_32 : decode cX9_take 32 = .ok (.ireturn, 1) := by decide +kernel
theorem dX9_give_0 : decode cX9_give 0 = .ok (.aload_n 0, 1) := by decide +kernel
theorem dX9_give_1 : decode cX9_give 1 = .ok (.getfield 14, 3) := by decide +kernel
theorem dX9_give_4 : decode cX9_give 4 = .ok (.iload_n 1, 1) := by decide +kernel
theorem dX9_give_5 : decode cX9_give 5 = .ok (.sipush 999, 3) := by decide +kernel
theorem dX9_give_8 : decode cX9_give 8 = .ok (.aload_n 0, 1) := by decide +kernel
theorem dX9_give_9 : decode cX9_give 9 = .ok (.getfield 14, 3) := by decide +kernel
theorem dX9_give_12 : decode cX9_give 12 = .ok (.iload_n 1, 1) := by decide +kernel
theorem dX9_give_13 : decode cX9_give 13 = .ok (.invokevirtual 90, 3) := by decide +kernel
theorem dX9_give_16 : decode cX9_give 16 = .ok (.iload_n 2, 1) := by decide +kernel
theorem dX9_give_17 : decode cX9_give 17 = .ok (.iadd, 1) := by decide +kernel
theorem dX9_give_18 : decode cX9_give 18 = .ok (.invokestatic 172, 3) := by decide +kernel
theorem dX9_give_21 : decode cX9_give 21 = .ok (.invokevirtual 86, 3) := by decide +kernel
theorem dX9_give_24 : decode cX9_give 24 = .ok (.return_, 1) := by decide +kernel
theorem dX9_addToLog_0 : decode cX9_addToLog 0 = .ok (.aload_n 0, 1) := by decide +kernel
theorem dX9_addToLog_1 : decode cX9_addToLog 1 = .ok (.getfield 80, 3) := by decide +kernel
theorem dX9_addToLog_4 : decode cX9_addToLog 4 = .ok (.bipush 60, 2) := by decide +kernel
theorem dX9_addToLog_6 : decode cX9_addToLog 6 = .ok (.irem, 1) := by decide +kernel
theorem dX9_addToLog_7 : decode cX9_addToLog 7 = .ok (.iconst 4, 1) := by decide +kernel
theorem dX9_addToLog_8 : decode cX9_addToLog 8 = .ok (.imul, 1) := by decide +kernel
theorem dX9_addToLog_9 : decode cX9_addToLog 9 = .ok (.istore 4, 2) := by decide +kernel
theorem dX9_addToLog_11 : decode cX9_addToLog 11 = .ok (.aload_n 0, 1) := by decide +kernel
theorem dX9_addToLog_12 : decode cX9_addToLog 12 = .ok (.getfield 38, 3) := by decide +kernel
theorem dX9_addToLog_15 : decode cX9_addToLog 15 = .ok (.iload 4, 2) := by decide +kernel
theorem dX9_addToLog_17 : decode cX9_addToLog 17 = .ok (.aload_n 0, 1) := by decide +kernel
theorem dX9_addToLog_18 : decode cX9_addToLog 18 = .ok (.getfield 71, 3) := by decide +kernel
theorem dX9_addToLog_21 : decode cX9_addToLog 21 = .ok (.invokevirtual 86, 3) := by decide +kernel
theorem dX9_addToLog_24 : decode cX9_addToLog 24 = .ok (.aload_n 0, 1) := by decide +kernel
theorem dX9_addToLog_25 : decode cX9_addToLog 25 = .ok (.getfield 38, 3) := by decide +kernel
theorem dX9_addToLog_28 : decode cX9_addToLog 28 = .ok (.iload 4, 2) := by decide +kernel
theorem dX9_addToLog_30 : decode cX9_addToLog 30 = .ok (.iconst 1, 1) := by decide +kernel
theorem dX9_addToLog_31 : decode cX9_addToLog 31 = .ok (.iadd, 1) := by decide +kernel
theorem dX9_addToLog_32 : decode cX9_addToLog 32 = .ok (.iload_n 1, 1) := by decide +kernel
theorem dX9_addToLog_33 : decode cX9_addToLog 33 = .ok (.invokevirtual 86, 3) := by decide +kernel
theorem dX9_addToLog_36 : decode cX9_addToLog 36 = .ok (.aload_n 0, 1) := by decide +kernel
theorem dX9_addToLog_37 : decode cX9_addToLog 37 = .ok (.getfield 38, 3) := by decide +kernel
theorem dX9_addToLog_40 : decode cX9_addToLog 40 = .ok (.iload 4, 2) := by decide +kernel
theorem dX9_addToLog_42 : decode cX9_addToLog 42 = .ok (.iconst 2, 1) := by decide +kernel
theorem dX9_addToLog_43 : decode cX9_addToLog 43 = .ok (.iadd, 1) := by decide +kernel
theorem dX9_addToLog_44 : decode cX9_addToLog 44 = .ok (.iload_n 2, 1) := by decide +kernel
theorem dX9_addToLog_45 : decode cX9_addToLog 45 = .ok (.invokevirtual 86, 3) := by decide +kernel
theorem dX9_addToLog_48 : decode cX9_addToLog 48 = .ok (.aload_n 0, 1) := by decide +kernel
theorem dX9_addToLog_49 : decode cX9_addToLog 49 = .ok (.getfield 38, 3) := by decide +kernel
theorem dX9_addToLog_52 : decode cX9_addToLog 52 = .ok (.iload 4, 2) := by decide +kernel
theorem dX9_addToLog_54 : decode cX9_addToLog 54 = .ok (.iconst 3, 1) := by decide +kernel
theorem dX9_addToLog_55 : decode cX9_addToLog 55 = .ok (.iadd, 1) := by decide +kernel
theorem dX9_addToLog_56 : decode cX9_addToLog 56 = .ok (.iload_n 3, 1) := by decide +kernel
theorem dX9_addToLog_57 : decode cX9_addToLog 57 = .ok (.invokevirtual 86, 3) := by decide +kernel
theorem dX9_addToLog_60 : decode cX9_addToLog 60 = .ok (.aload_n 0, 1) := by decide +kernel
theorem dX9_addToLog_61 : decode cX9_addToLog 61 = .ok (.dup, 1) := by decide +kernel
theorem dX9_addToLog_62 : decode cX9_addToLog 62 = .ok (.getfield 80, 3) := by decide +kernel
theorem dX9_addToLog_65 : decode cX9_addToLog 65 = .ok (.iconst 1, 1) := by decide +kernel
theorem dX9_addToLog_66 : decode cX9_addToLog 66 = .ok (.iadd, 1) := by decide +kernel
theorem dX9_addToLog_67 : decode cX9_addToLog 67 = .ok (.putfield 80, 3) := by decide +kernel
theorem dX9_addToLog_70 : decode cX9_addToLog 70 = .ok (.return_, 1) := by decide +kernel
theorem dX9_logRows_0 : decode cX9_logRows 0 = .ok (.bipush 60, 2) := by decide +kernel
theorem dX9_logRows_2 : decode cX9_logRows 2 = .ok (.aload_n 0, 1) := by decide +kernel
theorem dX9_logRows_3 : decode cX9_logRows 3 = .ok (.getfield 80, 3) := by decide +kernel
theorem dX9_logRows_6 : decode cX9_logRows 6 = .ok (.invokestatic 172, 3) := by decide +kernel
theorem dX9_logRows_9 : decode cX9_logRows 9 = .ok (.ireturn, 1) := by decide +kernel
theorem dX9_logged_0 : decode cX9_logged 0 = .ok (.aload_n 0, 1) := by decide +kernel
theorem dX9_logged_1 : decode cX9_logged 1 = .ok (.getfield 38, 3) := by decide +kernel
theorem dX9_logged_4 : decode cX9_logged 4 = .ok (.aload_n 0, 1) := by decide +kernel
theorem dX9_logged_5 : decode cX9_logged 5 = .ok (.getfield 80, 3) := by decide +kernel
theorem dX9_logged_8 : decode cX9_logged 8 = .ok (.iconst 1, 1) := by decide +kernel
theorem dX9_logged_9 : decode cX9_logged 9 = .ok (.isub, 1) := by decide +kernel
theorem dX9_logged_10 : decode cX9_logged 10 = .ok (.iload_n 1, 1) := by decide +kernel
theorem dX9_logged_11 : decode cX9_logged 11 = .ok (.isub, 1) := by decide +kernel
theorem dX9_logged_12 : decode cX9_logged 12 = .ok (.bipush 60, 2) := by decide +kernel
theorem dX9_logged_14 : decode cX9_logged 14 = .ok (.irem, 1) := by decide +kernel
theorem dX9_logged_15 : decode cX9_logged 15 = .ok (.iconst 4, 1) := by decide +kernel
theorem dX9_logged_16 : decode cX9_logged 16 = .ok (.imul, 1) := by decide +kernel
theorem dX9_logged_17 : decode cX9_logged 17 = .ok (.iload_n 2, 1) := by decide +kernel
theorem dX9_logged_18 : decode cX9_logged 18 = .ok (.iadd, 1) := by decide +kernel
theorem dX9_logged_19 : decode cX9_logged 19 = .ok (.invokevirtual 90, 3) := by decide +kernel
theorem dX9_logged_22 : decode cX9_logged 22 = .ok (.ireturn, 1) := by decide +kernel
theorem dX9_loggedClaims_0 : decode cX9_loggedClaims 0 = .ok (.iconst 0, 1) := by decide +kernel
theorem dX9_loggedClaims_1 : decode cX9_loggedClaims 1 = .ok (.istore_n 2, 1) := by decide +kernel
theorem dX9_loggedClaims_2 : decode cX9_loggedClaims 2 = .ok (.iconst 0, 1) := by decide +kernel
theorem dX9_loggedClaims_3 : decode cX9_loggedClaims 3 = .ok (.istore_n 3, 1) := by decide +kernel
theorem dX9_loggedClaims_4 : decode cX9_loggedClaims 4 = .ok (.iload_n 3, 1) := by decide +kernel
theorem dX9_loggedClaims_5 : decode cX9_loggedClaims 5 = .ok (.aload_n 0, 1) := by decide +kernel
theorem dX9_loggedClaims_6 : decode cX9_loggedClaims 6 = .ok (.invokevirtual 210, 3) := by decide +kernel
theorem dX9_loggedClaims_9 : decode cX9_loggedClaims 9 = .ok (.if_icmp .ge 22, 3) := by decide +kernel
theorem dX9_loggedClaims_12 : decode cX9_loggedClaims 12 = .ok (.aload_n 0, 1) := by decide +kernel
theorem dX9_loggedClaims_13 : decode cX9_loggedClaims 13 = .ok (.iload_n 3, 1) := by decide +kernel
theorem dX9_loggedClaims_14 : decode cX9_loggedClaims 14 = .ok (.iconst 1, 1) := by decide +kernel
theorem dX9_loggedClaims_15 : decode cX9_loggedClaims 15 = .ok (.invokevirtual 213, 3) := by decide +kernel
theorem dX9_loggedClaims_18 : decode cX9_loggedClaims 18 = .ok (.iload_n 1, 1) := by decide +kernel
theorem dX9_loggedClaims_19 : decode cX9_loggedClaims 19 = .ok (.if_icmp .ne 6, 3) := by decide +kernel
theorem dX9_loggedClaims_22 : decode cX9_loggedClaims 22 = .ok (.iinc 2 1, 3) := by decide +kernel
theorem dX9_loggedClaims_25 : decode cX9_loggedClaims 25 = .ok (.iinc 3 1, 3) := by decide +kernel
theorem dX9_loggedClaims_28 : decode cX9_loggedClaims 28 = .ok (.goto (-24), 3) := by decide +kernel
theorem dX9_loggedClaims_31 : decode cX9_loggedClaims 31 = .ok (.iload_n 2, 1) := by decide +kernel
theorem dX9_loggedClaims_32 : decode cX9_loggedClaims 32 = .ok (.ireturn, 1) := by decide +kernel
theorem dX9_loggedPaid_0 : decode cX9_loggedPaid 0 = .ok (.iconst 0, 1) := by decide +kernel
theorem dX9_loggedPaid_1 : decode cX9_loggedPaid 1 = .ok (.istore_n 2, 1) := by decide +kernel
theorem dX9_loggedPaid_2 : decode cX9_loggedPaid 2 = .ok (.iconst 0, 1) := by decide +kernel
theorem dX9_loggedPaid_3 : decode cX9_loggedPaid 3 = .ok (.istore_n 3, 1) := by decide +kernel
theorem dX9_loggedPaid_4 : decode cX9_loggedPaid 4 = .ok (.iload_n 3, 1) := by decide +kernel
theorem dX9_loggedPaid_5 : decode cX9_loggedPaid 5 = .ok (.aload_n 0, 1) := by decide +kernel
theorem dX9_loggedPaid_6 : decode cX9_loggedPaid 6 = .ok (.invokevirtual 210, 3) := by decide +kernel
theorem dX9_loggedPaid_9 : decode cX9_loggedPaid 9 = .ok (.if_icmp .ge 28, 3) := by decide +kernel
theorem dX9_loggedPaid_12 : decode cX9_loggedPaid 12 = .ok (.aload_n 0, 1) := by decide +kernel
theorem dX9_loggedPaid_13 : decode cX9_loggedPaid 13 = .ok (.iload_n 3, 1) := by decide +kernel
theorem dX9_loggedPaid_14 : decode cX9_loggedPaid 14 = .ok (.iconst 1, 1) := by decide +kernel
theorem dX9_loggedPaid_15 : decode cX9_loggedPaid 15 = .ok (.invokevirtual 213, 3) := by decide +kernel
theorem dX9_loggedPaid_18 : decode cX9_loggedPaid 18 = .ok (.iload_n 1, 1) := by decide +kernel
theorem dX9_loggedPaid_19 : decode cX9_loggedPaid 19 = .ok (.if_icmp .ne 12, 3) := by decide +kernel
theorem dX9_loggedPaid_22 : decode cX9_loggedPaid 22 = .ok (.iload_n 2, 1) := by decide +kernel
theorem dX9_loggedPaid_23 : decode cX9_loggedPaid 23 = .ok (.aload_n 0, 1) := by decide +kernel
theorem dX9_loggedPaid_24 : decode cX9_loggedPaid 24 = .ok (.iload_n 3, 1) := by decide +kernel
theorem dX9_loggedPaid_25 : decode cX9_loggedPaid 25 = .ok (.iconst 2, 1) := by decide +kernel
theorem dX9_loggedPaid_26 : decode cX9_loggedPaid 26 = .ok (.invokevirtual 213, 3) := by decide +kernel
theorem dX9_loggedPaid_29 : decode cX9_loggedPaid 29 = .ok (.iadd, 1) := by decide +kernel
theorem dX9_loggedPaid_30 : decode cX9_loggedPaid 30 = .ok (.istore_n 2, 1) := by decide +kernel
theorem dX9_loggedPaid_31 : decode cX9_loggedPaid 31 = .ok (.iinc 3 1, 3) := by decide +kernel
theorem dX9_loggedPaid_34 : decode cX9_loggedPaid 34 = .ok (.goto (-30), 3) := by decide +kernel
theorem dX9_loggedPaid_37 : decode cX9_loggedPaid 37 = .ok (.iload_n 2, 1) := by decide +kernel
theorem dX9_loggedPaid_38 : decode cX9_loggedPaid 38 = .ok (.ireturn, 1) := by decide +kernel
theorem dX10_init_0 : decode cX10_init 0 = .ok (.aload_n 0, 1) := by decide +kernel
theorem dX10_init_1 : decode cX10_init 1 = .ok (.invokespecial 3, 3) := by decide +kernel
theorem dX10_init_4 : decode cX10_init 4 = .ok (.aload_n 0, 1) := by decide +kernel
theorem dX10_init_5 : decode cX10_init 5 = .ok (.new 9, 3) := by decide +kernel
theorem dX10_init_8 : decode cX10_init 8 = .ok (.dup, 1) := by decide +kernel
theorem dX10_init_9 : decode cX10_init 9 = .ok (.invokespecial 11, 3) := by decide +kernel
theorem dX10_init_12 : decode cX10_init 12 = .ok (.putfield 12, 3) := by decide +kernel
theorem dX10_init_15 : decode cX10_init 15 = .ok (.return_, 1) := by decide +kernel
theorem dX10_readsLine_0 : decode cX10_readsLine 0 = .ok (.aload_n 0, 1) := by decide +kernel
theorem dX10_readsLine_1 : decode cX10_readsLine 1 = .ok (.getfield 18, 3) := by decide +kernel
theorem dX10_readsLine_4 : decode cX10_readsLine 4 = .ok (.getstatic 22, 3) := by decide +kernel
theorem dX10_readsLine_7 : decode cX10_readsLine 7 = .ok (.if_acmp .ne 8, 3) := by decide +kernel
theorem dX10_readsLine_10 : decode cX10_readsLine 10 = .ok (.aload_n 0, 1) := by decide +kernel
theorem dX10_readsLine_11 : decode cX10_readsLine 11 = .ok (.invokevirtual 27, 3) := by decide +kernel
theorem dX10_readsLine_14 : decode cX10_readsLine 14 = .ok (.ireturn, 1) := by decide +kernel
theorem dX10_readsLine_15 : decode cX10_readsLine 15 = .ok (.aload_n 0, 1) := by decide +kernel
theorem dX10_readsLine_16 : decode cX10_readsLine 16 = .ok (.getfield 18, 3) := by decide +kernel
theorem dX10_readsLine_19 : decode cX10_readsLine 19 = .ok (.getstatic 31, 3) := by decide +kernel
theorem dX10_readsLine_22 : decode cX10_readsLine 22 = .ok (.if_acmp .ne 8, 3) := by decide +kernel
theorem dX10_readsLine_25 : decode cX10_readsLine 25 = .ok (.aload_n 0, 1) := by decide +kernel
theorem dX10_readsLine_26 : decode cX10_readsLine 26 = .ok (.invokevirtual 34, 3) := by decide +kernel
theorem dX10_readsLine_29 : decode cX10_readsLine 29 = .ok (.ireturn, 1) := by decide +kernel
theorem dX10_readsLine_30 : decode cX10_readsLine 30 = .ok (.aload_n 0, 1) := by decide +kernel
theorem dX10_readsLine_31 : decode cX10_readsLine 31 = .ok (.getfield 18, 3) := by decide +kernel
theorem dX10_readsLine_34 : decode cX10_readsLine 34 = .ok (.getstatic 37, 3) := by decide +kernel
theorem dX10_readsLine_37 : decode cX10_readsLine 37 = .ok (.if_acmp .eq 13, 3) := by decide +kernel
theorem dX10_readsLine_40 : decode cX10_readsLine 40 = .ok (.aload_n 0, 1) := by decide +kernel
theorem dX10_readsLine_41 : decode cX10_readsLine 41 = .ok (.getfield 18, 3) := by decide +kernel
theorem dX10_readsLine_44 : decode cX10_readsLine 44 = .ok (.getstatic 40, 3) := by decide +kernel
theorem dX10_readsLine_47 : decode cX10_readsLine 47 = .ok (.if_acmp .ne 23, 3) := by decide +kernel
theorem dX10_readsLine_50 : decode cX10_readsLine 50 = .ok (.aload_n 0, 1) := by decide +kernel
theorem dX10_readsLine_51 : decode cX10_readsLine 51 = .ok (.aload_n 0, 1) := by decide +kernel
theorem dX10_readsLine_52 : decode cX10_readsLine 52 = .ok (.getfield 18, 3) := by decide +kernel
theorem dX10_readsLine_55 : decode cX10_readsLine 55 = .ok (.getstatic 37, 3) := by decide +kernel
theorem dX10_readsLine_58 : decode cX10_readsLine 58 = .ok (.if_acmp .ne 7, 3) := by decide +kernel
theorem dX10_readsLine_61 : decode cX10_readsLine 61 = .ok (.iconst 1, 1) := by decide +kernel
theorem dX10_readsLine_62 : decode cX10_readsLine 62 = .ok (.goto 4, 3) := by decide +kernel
theorem dX10_readsLine_65 : decode cX10_readsLine 65 = .ok (.iconst 0, 1) := by decide +kernel
theorem dX10_readsLine_66 : decode cX10_readsLine 66 = .ok (.invokevirtual 43, 3) := by decide +kernel
theorem dX10_readsLine_69 : decode cX10_readsLine 69 = .ok (.ireturn, 1) := by decide +kernel
theorem dX10_readsLine_70 : decode cX10_readsLine 70 = .ok (.aload_n 0, 1) := by decide +kernel
theorem dX10_readsLine_71 : decode cX10_readsLine 71 = .ok (.getfield 18, 3) := by decide +kernel
theorem dX10_readsLine_74 : decode cX10_readsLine 74 = .ok (.getstatic 47, 3) := by decide +kernel
theorem dX10_readsLine_77 : decode cX10_readsLine 77 = .ok (.if_acmp .ne 8, 3) := by decide +kernel
theorem dX10_readsLine_80 : decode cX10_readsLine 80 = .ok (.aload_n 0, 1) := by decide +kernel
theorem dX10_readsLine_81 : decode cX10_readsLine 81 = .ok (.invokevirtual 50, 3) := by decide +kernel
theorem dX10_readsLine_84 : decode cX10_readsLine 84 = .ok (.ireturn, 1) := by decide +kernel
theorem dX10_readsLine_85 : decode cX10_readsLine 85 = .ok (.aload_n 0, 1) := by decide +kernel
theorem dX10_readsLine_86 : decode cX10_readsLine 86 = .ok (.aload_n 0, 1) := by decide +kernel
theorem dX10_readsLine_87 : decode cX10_readsLine 87 = .ok (.getfield 18, 3) := by decide +kernel
theorem dX10_readsLine_90 : decode cX10_readsLine 90 = .ok (.invokevirtual 53, 3) := by decide +kernel
theorem dX10_readsLine_93 : decode cX10_readsLine 93 = .ok (.ireturn, 1) := by decide +kernel
theorem dX10_readsPerson_0 : decode cX10_readsPerson 0 = .ok (.aload_n 0, 1) := by decide +kernel
theorem dX10_readsPerson_1 : decode cX10_readsPerson 1 = .ok (.getfield 12, 3) := by decide +kernel
theorem dX10_readsPerson_4 : decode cX10_readsPerson 4 = .ok (.getfield 57, 3) := by decide +kernel
theorem dX10_readsPerson_7 : decode cX10_readsPerson 7 = .ok (.bipush 8, 2) := by decide +kernel
theorem dX10_readsPerson_9 : decode cX10_readsPerson 9 = .ok (.if_icmp .lt 8, 3) := by decide +kernel
theorem dX10_readsPerson_12 : decode cX10_readsPerson 12 = .ok (.aload_n 0, 1) := by decide +kernel
theorem dX10_readsPerson_13 : decode cX10_readsPerson 13 = .ok (.invokevirtual 61, 3) := by decide +kernel
theorem dX10_readsPerson_16 : decode cX10_readsPerson 16 = .ok (.ireturn, 1) := by decide +kernel
theorem dX10_readsPerson_17 : decode cX10_readsPerson 17 = .ok (.aload_n 0, 1) := by decide +kernel
theorem dX10_readsPerson_18 : decode cX10_readsPerson 18 = .ok (.invokevirtual 64, 3) := by decide +kernel
theorem dX10_readsPerson_21 : decode cX10_readsPerson 21 = .ok (.aload_n 0, 1) := by decide +kernel
theorem dX10_readsPerson_22 : decode cX10_readsPerson 22 = .ok (.sipush 999, 3) := by decide +kernel
theorem dX10_readsPerson_25 : decode cX10_readsPerson 25 = .ok (.invokevirtual 67, 3) := by decide +kernel
theorem dX10_readsPerson_28 : decode cX10_readsPerson 28 = .ok (.istore_n 1, 1) := by decide +kernel
theorem dX10_readsPerson_29 : decode cX10_readsPerson 29 = .ok (.iload_n 1, 1) := by decide +kernel
theorem dX10_readsPerson_30 : decode cX10_readsPerson 30 = .ok (.iconst (-1), 1) := by decide +kernel
theorem dX10_readsPerson_31 : decode cX10_readsPerson 31 = .ok (.if_icmp .ne 5, 3) := by decide +kernel
theorem dX10_readsPerson_34 : decode cX10_readsPerson 34 = .ok (.iconst 0, 1) := by decide +kernel
theorem dX10_readsPerson_35 : decode cX10_readsPerson 35 = .ok (.ireturn, 1) := by decide +kernel
theorem dX10_readsPerson_36 : decode cX10_readsPerson 36 = .ok (.aload_n 0, 1) := by decide +kernel
theorem dX10_readsPerson_37 : decode cX10_readsPerson 37 = .ok (.getfield 12, 3) := by decide +kernel
theorem dX10_readsPerson_40 : decode cX10_readsPerson 40 = .ok (.iload_n 1, 1) := by decide +kernel
theorem dX10_readsPerson_41 : decode cX10_readsPerson 41 = .ok (.invokevirtual 71, 3) := by decide +kernel
theorem dX10_readsPerson_44 : decode cX10_readsPerson 44 = .ok (.iconst 1, 1) := by decide +kernel
theorem dX10_readsPerson_45 : decode cX10_readsPerson 45 = .ok (.ireturn, 1) := by decide +kernel
theorem dX10_readsLikes_0 : decode cX10_readsLikes 0 = .ok (.aload_n 0, 1) := by decide +kernel
theorem dX10_readsLikes_1 : decode cX10_readsLikes 1 = .ok (.invokevirtual 64, 3) := by decide +kernel
theorem dX10_readsLikes_4 : decode cX10_readsLikes 4 = .ok (.aload_n 0, 1) := by decide +kernel
theorem dX10_readsLikes_5 : decode cX10_readsLikes 5 = .ok (.iconst (-1), 1) := by decide +kernel
theorem dX10_readsLikes_6 : decode cX10_readsLikes 6 = .ok (.iconst 0, 1) := by decide +kernel
theorem dX10_readsLikes_7 : decode cX10_readsLikes 7 = .ok (.invokevirtual 75, 3) := by decide +kernel
theorem dX10_readsLikes_10 : decode cX10_readsLikes 10 = .ok (.istore_n 1, 1) := by decide +kernel
theorem dX10_readsLikes_11 : decode cX10_readsLikes 11 = .ok (.iload_n 1, 1) := by decide +kernel
theorem dX10_readsLikes_12 : decode cX10_readsLikes 12 = .ok (.iconst (-1), 1) := by decide +kernel
theorem dX10_readsLikes_13 : decode cX10_readsLikes 13 = .ok (.if_icmp .ne 5, 3) := by decide +kernel
theorem dX10_readsLikes_16 : decode cX10_readsLikes 16 = .ok (.iconst 0, 1) := by decide +kernel
theorem dX10_readsLikes_17 : decode cX10_readsLikes 17 = .ok (.ireturn, 1) := by decide +kernel
theorem dX10_readsLikes_18 : decode cX10_readsLikes 18 = .ok (.aload_n 0, 1) := by decide +kernel
theorem dX10_readsLikes_19 : decode cX10_readsLikes 19 = .ok (.getfield 18, 3) := by decide +kernel
theorem dX10_readsLikes_22 : decode cX10_readsLikes 22 = .ok (.getstatic 79, 3) := by decide +kernel
theorem dX10_readsLikes_25 : decode cX10_readsLikes 25 = .ok (.if_acmp .ne 22, 3) := by decide +kernel
theorem dX10_readsLikes_28 : decode cX10_readsLikes 28 = .ok (.aload_n 0, 1) := by decide +kernel
theorem dX10_readsLikes_29 : decode cX10_readsLikes 29 = .ok (.getfield 82, 3) := by decide +kernel
theorem dX10_readsLikes_32 : decode cX10_readsLikes 32 = .ok (.aload_n 0, 1) := by decide +kernel
theorem dX10_readsLikes_33 : decode cX10_readsLikes 33 = .ok (.getfield 85, 3) := by decide +kernel
theorem dX10_readsLikes_36 : decode cX10_readsLikes 36 = .ok (.isub, 1) := by decide +kernel
theorem dX10_readsLikes_37 : decode cX10_readsLikes 37 = .ok (.aload_n 0, 1) := by decide +kernel
theorem dX10_readsLikes_38 : decode cX10_readsLikes 38 = .ok (.getfield 12, 3) := by decide +kernel
theorem dX10_readsLikes_41 : decode cX10_readsLikes 41 = .ok (.getfield 57, 3) := by decide +kernel
theorem dX10_readsLikes_44 : decode cX10_readsLikes 44 = .ok (.if_icmp .eq 8, 3) := by decide +kernel
theorem dX10_readsLikes_47 : decode cX10_readsLikes 47 = .ok (.aload_n 0, 1) := by decide +kernel
theorem dX10_readsLikes_48 : decode cX10_readsLikes 48 = .ok (.invokevirtual 61, 3) := by decide +kernel
theorem dX10_readsLikes_51 : decode cX10_readsLikes 51 = .ok (.ireturn, 1) := by decide +kernel
theorem dX10_readsLikes_52 : decode cX10_readsLikes 52 = .ok (.iconst 0, 1) := by decide +kernel
theorem dX10_readsLikes_53 : decode cX10_readsLikes 53 = .ok (.istore_n 2, 1) := by decide +kernel
theorem dX10_readsLikes_54 : decode cX10_readsLikes 54 = .ok (.iload_n 2, 1) := by decide +kernel
theorem dX10_readsLikes_55 : decode cX10_readsLikes 55 = .ok (.aload_n 0, 1) := by decide +kernel
theorem dX10_readsLikes_56 : decode cX10_readsLikes 56 = .ok (.getfield 12, 3) := by decide +kernel
theorem dX10_readsLikes_59 : decode cX10_readsLikes 59 = .ok (.getfield 57, 3) := by decide +kernel
theorem dX10_readsLikes_62 : decode cX10_readsLikes 62 = .ok (.if_icmp .ge 39, 3) := by decide +kernel
theorem dX10_readsLikes_65 : decode cX10_readsLikes 65 = .ok (.iload_n 2, 1) := by decide +kernel
theorem dX10_readsLikes_66 : decode cX10_readsLikes 66 = .ok (.iload_n 1, 1) := by decide +kernel
theorem dX10_readsLikes_67 : decode cX10_readsLikes 67 = .ok (.if_icmp .eq 28, 3) := by decide +kernel
theorem dX10_readsLikes_70 : decode cX10_readsLikes 70 = .ok (.aload_n 0, 1) := by decide +kernel
theorem dX10_readsLikes_71 : decode cX10_readsLikes 71 = .ok (.getfield 12, 3) := by decide +kernel
theorem dX10_readsLikes_74 : decode cX10_readsLikes 74 = .ok (.iload_n 1, 1) := by decide +kernel
theorem dX10_readsLikes_75 : decode cX10_readsLikes 75 = .ok (.iload_n 2, 1) := by decide +kernel
theorem dX10_readsLikes_76 : decode cX10_readsLikes 76 = .ok (.aload_n 0, 1) := by decide +kernel
theorem dX10_readsLikes_77 : decode cX10_readsLikes 77 = .ok (.getfield 88, 3) := by decide +kernel
theorem dX10_readsLikes_80 : decode cX10_readsLikes 80 = .ok (.aload_n 0, 1) := by decide +kernel
theorem dX10_readsLikes_81 : decode cX10_readsLikes 81 = .ok (.getfield 85, 3) := by decide +kernel
theorem dX10_readsLikes_84 : decode cX10_readsLikes 84 = .ok (.iload_n 2, 1) := by decide +kernel
theorem dX10_readsLikes_85 : decode cX10_readsLikes 85 = .ok (.iadd, 1) := by decide +kernel
theorem dX10_readsLikes_86 : decode cX10_readsLikes 86 = .ok (.invokevirtual 92, 3) := by decide +kernel
theorem dX10_readsLikes_89 : decode cX10_readsLikes 89 = .ok (.bipush 48, 2) := by decide +kernel
theorem dX10_readsLikes_91 : decode cX10_readsLikes 91 = .ok (.isub, 1) := by decide +kernel
theorem dX10_readsLikes_92 : decode cX10_readsLikes 92 = .ok (.invokevirtual 97, 3) := by decide +kernel
theorem dX10_readsLikes_95 : decode cX10_readsLikes 95 = .ok (.iinc 2 1, 3) := by decide +kernel
theorem dX10_readsLikes_98 : decode cX10_readsLikes 98 = .ok (.goto (-44), 3) := by decide +kernel
theorem dX10_readsLikes_101 : decode cX10_readsLikes 101 = .ok (.aload_n 0, 1) := by decide +kernel
theorem dX10_readsLikes_102 : decode cX10_readsLikes 102 = .ok (.invokevirtual 64, 3) := by decide +kernel
theorem dX10_readsLikes_105 : decode cX10_readsLikes 105 = .ok (.iconst 1, 1) := by decide +kernel
theorem dX10_readsLikes_106 : decode cX10_readsLikes 106 = .ok (.ireturn, 1) := by decide +kernel
theorem dX10_readsTwo_0 : decode cX10_readsTwo 0 = .ok (.aload_n 0, 1) := by decide +kernel
theorem dX10_readsTwo_1 : decode cX10_readsTwo 1 = .ok (.invokevirtual 64, 3) := by decide +kernel
theorem dX10_readsTwo_4 : decode cX10_readsTwo 4 = .ok (.aload_n 0, 1) := by decide +kernel
theorem dX10_readsTwo_5 : decode cX10_readsTwo 5 = .ok (.iconst (-1), 1) := by decide +kernel
theorem dX10_readsTwo_6 : decode cX10_readsTwo 6 = .ok (.iconst 0, 1) := by decide +kernel
theorem dX10_readsTwo_7 : decode cX10_readsTwo 7 = .ok (.invokevirtual 75, 3) := by decide +kernel
theorem dX10_readsTwo_10 : decode cX10_readsTwo 10 = .ok (.istore_n 2, 1) := by decide +kernel
theorem dX10_readsTwo_11 : decode cX10_readsTwo 11 = .ok (.iload_n 2, 1) := by decide +kernel
theorem dX10_readsTwo_12 : decode cX10_readsTwo 12 = .ok (.iconst (-1), 1) := by decide +kernel
theorem dX10_readsTwo_13 : decode cX10_readsTwo 13 = .ok (.if_icmp .ne 7, 3) := by decide +kernel
theorem dX10_readsTwo_16 : decode cX10_readsTwo 16 = .ok (.iconst (-1), 1) := by decide +kernel
theorem dX10_readsTwo_17 : decode cX10_readsTwo 17 = .ok (.goto 9, 3) := by decide +kernel
theorem dX10_readsTwo_20 : decode cX10_readsTwo 20 = .ok (.aload_n 0, 1) := by decide +kernel
theorem dX10_readsTwo_21 : decode cX10_readsTwo 21 = .ok (.iload_n 2, 1) := by decide +kernel
theorem dX10_readsTwo_22 : decode cX10_readsTwo 22 = .ok (.iconst 0, 1) := by decide +kernel
theorem dX10_readsTwo_23 : decode cX10_readsTwo 23 = .ok (.invokevirtual 75, 3) := by decide +kernel
theorem dX10_readsTwo_26 : decode cX10_readsTwo 26 = .ok (.istore_n 3, 1) := by decide +kernel
theorem dX10_readsTwo_27 : decode cX10_readsTwo 27 = .ok (.iload_n 3, 1) := by decide +kernel
theorem dX10_readsTwo_28 : decode cX10_readsTwo 28 = .ok (.iconst (-1), 1) := by decide +kernel
theorem dX10_readsTwo_29 : decode cX10_readsTwo 29 = .ok (.if_icmp .ne 5, 3) := by decide +kernel
theorem dX10_readsTwo_32 : decode cX10_readsTwo 32 = .ok (.iconst 0, 1) := by decide +kernel
theorem dX10_readsTwo_33 : decode cX10_readsTwo 33 = .ok (.ireturn, 1) := by decide +kernel
theorem dX10_readsTwo_34 : decode cX10_readsTwo 34 = .ok (.iload_n 1, 1) := by decide +kernel
theorem dX10_readsTwo_35 : decode cX10_readsTwo 35 = .ok (.ifCond .eq 16, 3) := by decide +kernel
theorem dX10_readsTwo_38 : decode cX10_readsTwo 38 = .ok (.aload_n 0, 1) := by decide +kernel
theorem dX10_readsTwo_39 : decode cX10_readsTwo 39 = .ok (.getfield 12, 3) := by decide +kernel
theorem dX10_readsTwo_42 : decode cX10_readsTwo 42 = .ok (.iload_n 2, 1) := by decide +kernel
theorem dX10_readsTwo_43 : decode cX10_readsTwo 43 = .ok (.iload_n 3, 1) := by decide +kernel
theorem dX10_readsTwo_44 : decode cX10_readsTwo 44 = .ok (.invokevirtual 101, 3) := by decide +kernel
theorem dX10_readsTwo_47 : decode cX10_readsTwo 47 = .ok (.pop, 1) := by decide +kernel
theorem dX10_readsTwo_48 : decode cX10_readsTwo 48 = .ok (.goto 15, 3) := by decide +kernel
theorem dX10_readsTwo_51 : decode cX10_readsTwo 51 = .ok (.aload_n 0, 1) := by decide +kernel
theorem dX10_readsTwo_52 : decode cX10_readsTwo 52 = .ok (.getfield 12, 3) := by decide +kernel
theorem dX10_readsTwo_55 : decode cX10_readsTwo 55 = .ok (.getfield 105, 3) := by decide +kernel
theorem dX10_readsTwo_58 : decode cX10_readsTwo 58 = .ok (.iload_n 2, 1) := by decide +kernel
theorem dX10_readsTwo_59 : decode cX10_readsTwo 59 = .ok (.iload_n 3, 1) := by decide +kernel
theorem dX10_readsTwo_60 : decode cX10_readsTwo 60 = .ok (.invokevirtual 108, 3) := by decide +kernel
theorem dX10_readsTwo_63 : decode cX10_readsTwo 63 = .ok (.iconst 1, 1) := by decide +kernel
theorem dX10_readsTwo_64 : decode cX10_readsTwo 64 = .ok (.ireturn, 1) := by decide +kernel
theorem dX10_readsWed_0 : decode cX10_readsWed 0 = .ok (.aload_n 0, 1) := by decide +kernel
theorem dX10_readsWed_1 : decode cX10_readsWed 1 = .ok (.getfield 12, 3) := by decide +kernel
theorem dX10_readsWed_4 : decode cX10_readsWed 4 = .ok (.getfield 112, 3) := by decide +kernel
theorem dX10_readsWed_7 : decode cX10_readsWed 7 = .ok (.bipush 20, 2) := by decide +kernel
theorem dX10_readsWed_9 : decode cX10_readsWed 9 = .ok (.if_icmp .lt 8, 3) := by decide +kernel
theorem dX10_readsWed_12 : decode cX10_readsWed 12 = .ok (.aload_n 0, 1) := by decide +kernel
theorem dX10_readsWed_13 : decode cX10_readsWed 13 = .ok (.invokevirtual 61, 3) := by decide +kernel
theorem dX10_readsWed_16 : decode cX10_readsWed 16 = .ok (.ireturn, 1) := by decide +kernel
theorem dX10_readsWed_17 : decode cX10_readsWed 17 = .ok (.aload_n 0, 1) := by decide +kernel
theorem dX10_readsWed_18 : decode cX10_readsWed 18 = .ok (.invokevirtual 64, 3) := by decide +kernel
theorem dX10_readsWed_21 : decode cX10_readsWed 21 = .ok (.aload_n 0, 1) := by decide +kernel
theorem dX10_readsWed_22 : decode cX10_readsWed 22 = .ok (.iconst (-1), 1) := by decide +kernel
theorem dX10_readsWed_23 : decode cX10_readsWed 23 = .ok (.iconst 1, 1) := by decide +kernel
theorem dX10_readsWed_24 : decode cX10_readsWed 24 = .ok (.invokevirtual 75, 3) := by decide +kernel
theorem dX10_readsWed_27 : decode cX10_readsWed 27 = .ok (.istore_n 1, 1) := by decide +kernel
theorem dX10_readsWed_28 : decode cX10_readsWed 28 = .ok (.iload_n 1, 1) := by decide +kernel
theorem dX10_readsWed_29 : decode cX10_readsWed 29 = .ok (.iconst (-1), 1) := by decide +kernel
theorem dX10_readsWed_30 : decode cX10_readsWed 30 = .ok (.if_icmp .ne 7, 3) := by decide +kernel
theorem dX10_readsWed_33 : decode cX10_readsWed 33 = .ok (.iconst (-1), 1) := by decide +kernel
theorem dX10_readsWed_34 : decode cX10_readsWed 34 = .ok (.goto 9, 3) := by decide +kernel
theorem dX10_readsWed_37 : decode cX10_readsWed 37 = .ok (.aload_n 0, 1) := by decide +kernel
theorem dX10_readsWed_38 : decode cX10_readsWed 38 = .ok (.iload_n 1, 1) := by decide +kernel
theorem dX10_readsWed_39 : decode cX10_readsWed 39 = .ok (.iconst 1, 1) := by decide +kernel
theorem dX10_readsWed_40 : decode cX10_readsWed 40 = .ok (.invokevirtual 75, 3) := by decide +kernel
theorem dX10_readsWed_43 : decode cX10_readsWed 43 = .ok (.istore_n 2, 1) := by decide +kernel
theorem dX10_readsWed_44 : decode cX10_readsWed 44 = .ok (.iload_n 2, 1) := by decide +kernel
theorem dX10_readsWed_45 : decode cX10_readsWed 45 = .ok (.iconst (-1), 1) := by decide +kernel
theorem dX10_readsWed_46 : decode cX10_readsWed 46 = .ok (.if_icmp .eq 13, 3) := by decide +kernel
theorem dX10_readsWed_49 : decode cX10_readsWed 49 = .ok (.aload_n 0, 1) := by decide +kernel
theorem dX10_readsWed_50 : decode cX10_readsWed 50 = .ok (.getstatic 115, 3) := by decide +kernel
theorem dX10_readsWed_53 : decode cX10_readsWed 53 = .ok (.invokevirtual 118, 3) := by decide +kernel
theorem dX10_readsWed_56 : decode cX10_readsWed 56 = .ok (.ifCond .ne 5, 3) := by decide +kernel
theorem dX10_readsWed_59 : decode cX10_readsWed 59 = .ok (.iconst 0, 1) := by decide +kernel
theorem dX10_readsWed_60 : decode cX10_readsWed 60 = .ok (.ireturn, 1) := by decide +kernel
theorem dX10_readsWed_61 : decode cX10_readsWed 61 = .ok (.aload_n 0, 1) := by decide +kernel
theorem dX10_readsWed_62 : decode cX10_readsWed 62 = .ok (.bipush 99, 2) := by decide +kernel
theorem dX10_readsWed_64 : decode cX10_readsWed 64 = .ok (.invokevirtual 67, 3) := by decide +kernel
theorem dX10_readsWed_67 : decode cX10_readsWed 67 = .ok (.istore_n 3, 1) := by decide +kernel
theorem dX10_readsWed_68 : decode cX10_readsWed 68 = .ok (.iload_n 3, 1) := by decide +kernel
theorem dX10_readsWed_69 : decode cX10_readsWed 69 = .ok (.iconst (-1), 1) := by decide +kernel
theorem dX10_readsWed_70 : decode cX10_readsWed 70 = .ok (.if_icmp .ne 5, 3) := by decide +kernel
theorem dX10_readsWed_73 : decode cX10_readsWed 73 = .ok (.iconst 0, 1) := by decide +kernel
theorem dX10_readsWed_74 : decode cX10_readsWed 74 = .ok (.ireturn, 1) := by decide +kernel
theorem dX10_readsWed_75 : decode cX10_readsWed 75 = .ok (.aload_n 0, 1) := by decide +kernel
theorem dX10_readsWed_76 : decode cX10_readsWed 76 = .ok (.getfield 12, 3) := by decide +kernel
theorem dX10_readsWed_79 : decode cX10_readsWed 79 = .ok (.iload_n 1, 1) := by decide +kernel
theorem dX10_readsWed_80 : decode cX10_readsWed 80 = .ok (.iload_n 2, 1) := by decide +kernel
theorem dX10_readsWed_81 : decode cX10_readsWed 81 = .ok (.iload_n 3, 1) := by decide +kernel
theorem dX10_readsWed_82 : decode cX10_readsWed 82 = .ok (.invokevirtual 121, 3) := by decide +kernel
theorem dX10_readsWed_85 : decode cX10_readsWed 85 = .ok (.pop, 1) := by decide +kernel
theorem dX10_readsWed_86 : decode cX10_readsWed 86 = .ok (.iconst 1, 1) := by decide +kernel
theorem dX10_readsWed_87 : decode cX10_readsWed 87 = .ok (.ireturn, 1) := by decide +kernel
theorem dX10_readsSetting_0 : decode cX10_readsSetting 0 = .ok (.aload_n 1, 1) := by decide +kernel
theorem dX10_readsSetting_1 : decode cX10_readsSetting 1 = .ok (.getstatic 125, 3) := by decide +kernel
theorem dX10_readsSetting_4 : decode cX10_readsSetting 4 = .ok (.if_acmp .eq 22, 3) := by decide +kernel
theorem dX10_readsSetting_7 : decode cX10_readsSetting 7 = .ok (.aload_n 1, 1) := by decide +kernel
theorem dX10_readsSetting_8 : decode cX10_readsSetting 8 = .ok (.getstatic 128, 3) := by decide +kernel
theorem dX10_readsSetting_11 : decode cX10_readsSetting 11 = .ok (.if_acmp .eq 15, 3) := by decide +kernel
theorem dX10_readsSetting_14 : decode cX10_readsSetting 14 = .ok (.aload_n 1, 1) := by decide +kernel
theorem dX10_readsSetting_15 : decode cX10_readsSetting 15 = .ok (.getstatic 131, 3) := by decide +kernel
theorem dX10_readsSetting_18 : decode cX10_readsSetting 18 = .ok (.if_acmp .eq 8, 3) := by decide +kernel
theorem dX10_readsSetting_21 : decode cX10_readsSetting 21 = .ok (.aload_n 0, 1) := by decide +kernel
theorem dX10_readsSetting_22 : decode cX10_readsSetting 22 = .ok (.invokevirtual 61, 3) := by decide +kernel
theorem dX10_readsSetting_25 : decode cX10_readsSetting 25 = .ok (.ireturn, 1) := by decide +kernel
theorem dX10_readsSetting_26 : decode cX10_readsSetting 26 = .ok (.aload_n 0, 1) := by decide +kernel
theorem dX10_readsSetting_27 : decode cX10_readsSetting 27 = .ok (.invokevirtual 64, 3) := by decide +kernel
theorem dX10_readsSetting_30 : decode cX10_readsSetting 30 = .ok (.aload_n 0, 1) := by decide +kernel
theorem dX10_readsSetting_31 : decode cX10_readsSetting 31 = .ok (.aload_n 1, 1) := by decide +kernel
theorem dX10_readsSetting_32 : decode cX10_readsSetting 32 = .ok (.getstatic 128, 3) := by decide +kernel
theorem dX10_readsSetting_35 : decode cX10_readsSetting 35 = .ok (.if_acmp .ne 8, 3) := by decide +kernel
theorem dX10_readsSetting_38 : decode cX10_readsSetting 38 = .ok (.bipush 20, 2) := by decide +kernel
theorem dX10_readsSetting_40 : decode cX10_readsSetting 40 = .ok (.goto 5, 3) := by decide +kernel
theorem dX10_readsSetting_43 : decode cX10_readsSetting 43 = .ok (.bipush 99, 2) := by decide +kernel
theorem dX10_readsSetting_45 : decode cX10_readsSetting 45 = .ok (.invokevirtual 67, 3) := by decide +kernel
theorem dX10_readsSetting_48 : decode cX10_readsSetting 48 = .ok (.istore_n 2, 1) := by decide +kernel
theorem dX10_readsSetting_49 : decode cX10_readsSetting 49 = .ok (.iload_n 2, 1) := by decide +kernel
theorem dX10_readsSetting_50 : decode cX10_readsSetting 50 = .ok (.iconst (-1), 1) := by decide +kernel
theorem dX10_readsSetting_51 : decode cX10_readsSetting 51 = .ok (.if_icmp .ne 5, 3) := by decide +kernel
theorem dX10_readsSetting_54 : decode cX10_readsSetting 54 = .ok (.iconst 0, 1) := by decide +kernel
theorem dX10_readsSetting_55 : decode cX10_readsSetting 55 = .ok (.ireturn, 1) := by decide +kernel
theorem dX10_readsSetting_56 : decode cX10_readsSetting 56 = .ok (.aload_n 1, 1) := by decide +kernel
theorem dX10_readsSetting_57 : decode cX10_readsSetting 57 = .ok (.getstatic 125, 3) := by decide +kernel
theorem dX10_readsSetting_60 : decode cX10_readsSetting 60 = .ok (.if_acmp .ne 14, 3) := by decide +kernel
theorem dX10_readsSetting_63 : decode cX10_readsSetting 63 = .ok (.aload_n 0, 1) := by decide +kernel
theorem dX10_readsSetting_64 : decode cX10_readsSetting 64 = .ok (.getfield 12, 3) := by decide +kernel
theorem dX10_readsSetting_67 : decode cX10_readsSetting 67 = .ok (.iload_n 2, 1) := by decide +kernel
theorem dX10_readsSetting_68 : decode cX10_readsSetting 68 = .ok (.putfield 134, 3) := by decide +kernel
theorem dX10_readsSetting_71 : decode cX10_readsSetting 71 = .ok (.goto 29, 3) := by decide +kernel
theorem dX10_readsSetting_74 : decode cX10_readsSetting 74 = .ok (.aload_n 1, 1) := by decide +kernel
theorem dX10_readsSetting_75 : decode cX10_readsSetting 75 = .ok (.getstatic 128, 3) := by decide +kernel
theorem dX10_readsSetting_78 : decode cX10_readsSetting 78 = .ok (.if_acmp .ne 14, 3) := by decide +kernel
theorem dX10_readsSetting_81 : decode cX10_readsSetting 81 = .ok (.aload_n 0, 1) := by decide +kernel
theorem dX10_readsSetting_82 : decode cX10_readsSetting 82 = .ok (.getfield 12, 3) := by decide +kernel
theorem dX10_readsSetting_85 : decode cX10_readsSetting 85 = .ok (.iload_n 2, 1) := by decide +kernel
theorem dX10_readsSetting_86 : decode cX10_readsSetting 86 = .ok (.putfield 137, 3) := by decide +kernel
theorem dX10_readsSetting_89 : decode cX10_readsSetting 89 = .ok (.goto 11, 3) := by decide +kernel
theorem dX10_readsSetting_92 : decode cX10_readsSetting 92 = .ok (.aload_n 0, 1) := by decide +kernel
theorem dX10_readsSetting_93 : decode cX10_readsSetting 93 = .ok (.getfield 12, 3) := by decide +kernel
theorem dX10_readsSetting_96 : decode cX10_readsSetting 96 = .ok (.iload_n 2, 1) := by decide +kernel
theorem dX10_readsSetting_97 : decode cX10_readsSetting 97 = .ok (.putfield 140, 3) := by decide +kernel
theorem dX10_readsSetting_100 : decode cX10_readsSetting 100 = .ok (.iconst 1, 1) := by decide +kernel
theorem dX10_readsSetting_101 : decode cX10_readsSetting 101 = .ok (.ireturn, 1) := by decide +kernel
theorem dX10_takeSomebody_0 : decode cX10_takeSomebody 0 = .ok (.aload_n 0, 1) := by decide +kernel
theorem dX10_takeSomebody_1 : decode cX10_takeSomebody 1 = .ok (.getfield 143, 3) := by decide +kernel
theorem dX10_takeSomebody_4 : decode cX10_takeSomebody 4 = .ok (.istore_n 3, 1) := by decide +kernel
theorem dX10_takeSomebody_5 : decode cX10_takeSomebody 5 = .ok (.aload_n 0, 1) := by decide +kernel
theorem dX10_takeSomebody_6 : decode cX10_takeSomebody 6 = .ok (.getfield 12, 3) := by decide +kernel
theorem dX10_takeSomebody_9 : decode cX10_takeSomebody 9 = .ok (.iload_n 3, 1) := by decide +kernel
theorem dX10_takeSomebody_10 : decode cX10_takeSomebody 10 = .ok (.invokevirtual 146, 3) := by decide +kernel
theorem dX10_takeSomebody_13 : decode cX10_takeSomebody 13 = .ok (.ifCond .eq 28, 3) := by decide +kernel
theorem dX10_takeSomebody_16 : decode cX10_takeSomebody 16 = .ok (.iload_n 3, 1) := by decide +kernel
theorem dX10_takeSomebody_17 : decode cX10_takeSomebody 17 = .ok (.iload_n 1, 1) := by decide +kernel
theorem dX10_takeSomebody_18 : decode cX10_takeSomebody 18 = .ok (.if_icmp .eq 23, 3) := by decide +kernel
theorem dX10_takeSomebody_21 : decode cX10_takeSomebody 21 = .ok (.iload_n 2, 1) := by decide +kernel
theorem dX10_takeSomebody_22 : decode cX10_takeSomebody 22 = .ok (.ifCond .eq 15, 3) := by decide +kernel
theorem dX10_takeSomebody_25 : decode cX10_takeSomebody 25 = .ok (.aload_n 0, 1) := by decide +kernel
theorem dX10_takeSomebody_26 : decode cX10_takeSomebody 26 = .ok (.getfield 12, 3) := by decide +kernel
theorem dX10_takeSomebody_29 : decode cX10_takeSomebody 29 = .ok (.iload_n 3, 1) := by decide +kernel
theorem dX10_takeSomebody_30 : decode cX10_takeSomebody 30 = .ok (.invokevirtual 150, 3) := by decide +kernel
theorem dX10_takeSomebody_33 : decode cX10_takeSomebody 33 = .ok (.iconst (-1), 1) := by decide +kernel
theorem dX10_takeSomebody_34 : decode cX10_takeSomebody 34 = .ok (.if_icmp .ne 7, 3) := by decide +kernel
theorem dX10_takeSomebody_37 : decode cX10_takeSomebody 37 = .ok (.iconst 1, 1) := by decide +kernel
theorem dX10_takeSomebody_38 : decode cX10_takeSomebody 38 = .ok (.goto 4, 3) := by decide +kernel
theorem dX10_takeSomebody_41 : decode cX10_takeSomebody 41 = .ok (.iconst 0, 1) := by decide +kernel
theorem dX10_takeSomebody_42 : decode cX10_takeSomebody 42 = .ok (.istore 4, 2) := by decide +kernel
theorem dX10_takeSomebody_44 : decode cX10_takeSomebody 44 = .ok (.iload 4, 2) := by decide +kernel
theorem dX10_takeSomebody_46 : decode cX10_takeSomebody 46 = .ok (.ifCond .ne 10, 3) := by decide +kernel
theorem dX10_takeSomebody_49 : decode cX10_takeSomebody 49 = .ok (.aload_n 0, 1) := by decide +kernel
theorem dX10_takeSomebody_50 : decode cX10_takeSomebody 50 = .ok (.invokevirtual 61, 3) := by decide +kernel
theorem dX10_takeSomebody_53 : decode cX10_takeSomebody 53 = .ok (.pop, 1) := by decide +kernel
theorem dX10_takeSomebody_54 : decode cX10_takeSomebody 54 = .ok (.iconst (-1), 1) := by decide +kernel
theorem dX10_takeSomebody_55 : decode cX10_takeSomebody 55 = .ok (.ireturn, 1) := by decide +kernel
theorem dX10_takeSomebody_56 : decode cX10_takeSomebody 56 = .ok (.aload_n 0, 1) := by decide +kernel
theorem dX10_takeSomebody_57 : decode cX10_takeSomebody 57 = .ok (.invokevirtual 64, 3) := by decide +kernel
theorem dX10_takeSomebody_60 : decode cX10_takeSomebody 60 = .ok (.iload_n 3, 1) := by decide +kernel
theorem dX10_takeSomebody_61 : decode cX10_takeSomebody 61 = .ok (.ireturn, 1) := by decide +kernel
theorem dX11_init_0 : decode cX11_init 0 = .ok (.aload_n 0, 1) := by decide +kernel
theorem dX11_init_1 : decode cX11_init 1 = .ok (.invokespecial 1, 3) := by decide +kernel
theorem dX11_init_4 : decode cX11_init 4 = .ok (.aload_n 0, 1) := by decide +kernel
theorem dX11_init_5 : decode cX11_init 5 = .ok (.new 7, 3) := by decide +kernel
theorem dX11_init_8 : decode cX11_init 8 = .ok (.dup, 1) := by decide +kernel
theorem dX11_init_9 : decode cX11_init 9 = .ok (.sipush 400, 3) := by decide +kernel
theorem dX11_init_12 : decode cX11_init 12 = .ok (.invokespecial 11, 3) := by decide +kernel
theorem dX11_init_15 : decode cX11_init 15 = .ok (.putfield 14, 3) := by decide +kernel
theorem dX11_init_18 : decode cX11_init 18 = .ok (.aload_n 0, 1) := by decide +kernel
theorem dX11_init_19 : decode cX11_init 19 = .ok (.new 18, 3) := by decide +kernel
theorem dX11_init_22 : decode cX11_init 22 = .ok (.dup, 1) := by decide +kernel
theorem dX11_init_23 : decode cX11_init 23 = .ok (.invokespecial 20, 3) := by decide +kernel
theorem dX11_init_26 : decode cX11_init 26 = .ok (.putfield 21, 3) := by decide +kernel
theorem dX11_init_29 : decode cX11_init 29 = .ok (.aload_n 0, 1) := by decide +kernel
theorem dX11_init_30 : decode cX11_init 30 = .ok (.new 25, 3) := by decide +kernel
theorem dX11_init_33 : decode cX11_init 33 = .ok (.dup, 1) := by decide +kernel
theorem dX11_init_34 : decode cX11_init 34 = .ok (.invokespecial 27, 3) := by decide +kernel
theorem dX11_init_37 : decode cX11_init 37 = .ok (.putfield 28, 3) := by decide +kernel
theorem dX11_init_40 : decode cX11_init 40 = .ok (.aload_n 0, 1) := by decide +kernel
theorem dX11_init_41 : decode cX11_init 41 = .ok (.new 18, 3) := by decide +kernel
theorem dX11_init_44 : decode cX11_init 44 = .ok (.dup, 1) := by decide +kernel
theorem dX11_init_45 : decode cX11_init 45 = .ok (.invokespecial 20, 3) := by decide +kernel
theorem dX11_init_48 : decode cX11_init 48 = .ok (.putfield 32, 3) := by decide +kernel
theorem dX11_init_51 : decode cX11_init 51 = .ok (.aload_n 0, 1) := by decide +kernel
theorem dX11_init_52 : decode cX11_init 52 = .ok (.new 25, 3) := by decide +kernel
theorem dX11_init_55 : decode cX11_init 55 = .ok (.dup, 1) := by decide +kernel
theorem dX11_init_56 : decode cX11_init 56 = .ok (.invokespecial 27, 3) := by decide +kernel
theorem dX11_init_59 : decode cX11_init 59 = .ok (.putfield 35, 3) := by decide +kernel
theorem dX11_init_62 : decode cX11_init 62 = .ok (.aload_n 0, 1) := by decide +kernel
theorem dX11_init_63 : decode cX11_init 63 = .ok (.bipush 12, 2) := by decide +kernel
theorem dX11_init_65 : decode cX11_init 65 = .ok (.anewarray 18, 3) := by decide +kernel
theorem dX11_init_68 : decode cX11_init 68 = .ok (.putfield 38, 3) := by decide +kernel
theorem dX11_init_71 : decode cX11_init 71 = .ok (.aload_n 0, 1) := by decide +kernel
theorem dX11_init_72 : decode cX11_init 72 = .ok (.new 42, 3) := by decide +kernel
theorem dX11_init_75 : decode cX11_init 75 = .ok (.dup, 1) := by decide +kernel
theorem dX11_init_76 : decode cX11_init 76 = .ok (.invokespecial 44, 3) := by decide +kernel
theorem dX11_init_79 : decode cX11_init 79 = .ok (.putfield 45, 3) := by decide +kernel
theorem dX11_init_82 : decode cX11_init 82 = .ok (.aload_n 0, 1) := by decide +kernel
theorem dX11_init_83 : decode cX11_init 83 = .ok (.new 49, 3) := by decide +kernel
theorem dX11_init_86 : decode cX11_init 86 = .ok (.dup, 1) := by decide +kernel
theorem dX11_init_87 : decode cX11_init 87 = .ok (.invokespecial 51, 3) := by decide +kernel
theorem dX11_init_90 : decode cX11_init 90 = .ok (.putfield 52, 3) := by decide +kernel
theorem dX11_init_93 : decode cX11_init 93 = .ok (.aload_n 0, 1) := by decide +kernel
theorem dX11_init_94 : decode cX11_init 94 = .ok (.new 56, 3) := by decide +kernel
theorem dX11_init_97 : decode cX11_init 97 = .ok (.dup, 1) := by decide +kernel
theorem dX11_init_98 : decode cX11_init 98 = .ok (.invokespecial 58, 3) := by decide +kernel
theorem dX11_init_101 : decode cX11_init 101 = .ok (.putfield 59, 3) := by decide +kernel
theorem dX11_init_104 : decode cX11_init 104 = .ok (.aload_n 0, 1) := by decide +kernel
theorem dX11_init_105 : decode cX11_init 105 = .ok (.new 63, 3) := by decide +kernel
theorem dX11_init_108 : decode cX11_init 108 = .ok (.dup, 1) := by decide +kernel
theorem dX11_init_109 : decode cX11_init 109 = .ok (.invokespecial 65, 3) := by decide +kernel
theorem dX11_init_112 : decode cX11_init 112 = .ok (.putfield 66, 3) := by decide +kernel
theorem dX11_init_115 : decode cX11_init 115 = .ok (.aload_n 0, 1) := by decide +kernel
theorem dX11_init_116 : decode cX11_init 116 = .ok (.new 70, 3) := by decide +kernel
theorem dX11_init_119 : decode cX11_init 119 = .ok (.dup, 1) := by decide +kernel
theorem dX11_init_120 : decode cX11_init 120 = .ok (.invokespecial 72, 3) := by decide +kernel
theorem dX11_init_123 : decode cX11_init 123 = .ok (.putfield 73, 3) := by decide +kernel
theorem dX11_init_126 : decode cX11_init 126 = .ok (.aload_n 0, 1) := by decide +kernel
theorem dX11_init_127 : decode cX11_init 127 = .ok (.new 77, 3) := by decide +kernel
theorem dX11_init_130 : decode cX11_init 130 = .ok (.dup, 1) := by decide +kernel
theorem dX11_init_131 : decode cX11_init 131 = .ok (.invokespecial 79, 3) := by decide +kernel
theorem dX11_init_134 : decode cX11_init 134 = .ok (.putfield 80, 3) := by decide +kernel
theorem dX11_init_137 : decode cX11_init 137 = .ok (.aload_n 0, 1) := by decide +kernel
theorem dX11_init_138 : decode cX11_init 138 = .ok (.iconst (-1), 1) := by decide +kernel
theorem dX11_init_139 : decode cX11_init 139 = .ok (.putfield 84, 3) := by decide +kernel
theorem dX11_init_142 : decode cX11_init 142 = .ok (.iconst 0, 1) := by decide +kernel
theorem dX11_init_143 : decode cX11_init 143 = .ok (.istore_n 1, 1) := by decide +kernel
theorem dX11_init_144 : decode cX11_init 144 = .ok (.iload_n 1, 1) := by decide +kernel
theorem dX11_init_145 : decode cX11_init 145 = .ok (.aload_n 0, 1) := by decide +kernel
theorem dX11_init_146 : decode cX11_init 146 = .ok (.getfield 38, 3) := by decide +kernel
theorem dX11_init_149 : decode cX11_init 149 = .ok (.arraylength, 1) := by decide +kernel
theorem dX11_init_150 : decode cX11_init 150 = .ok (.if_icmp .ge 22, 3) := by decide +kernel
theorem dX11_init_153 : decode cX11_init 153 = .ok (.aload_n 0, 1) := by decide +kernel
theorem dX11_init_154 : decode cX11_init 154 = .ok (.getfield 38, 3) := by decide +kernel
theorem dX11_init_157 : decode cX11_init 157 = .ok (.iload_n 1, 1) := by decide +kernel
theorem dX11_init_158 : decode cX11_init 158 = .ok (.new 18, 3) := by decide +kernel
theorem dX11_init_161 : decode cX11_init 161 = .ok (.dup, 1) := by decide +kernel
theorem dX11_init_162 : decode cX11_init 162 = .ok (.invokespecial 20, 3) := by decide +kernel
theorem dX11_init_165 : decode cX11_init 165 = .ok (.aastore, 1) := by decide +kernel
theorem dX11_init_166 : decode cX11_init 166 = .ok (.iinc 1 1, 3) := by decide +kernel
theorem dX11_init_169 : decode cX11_init 169 = .ok (.goto (-25), 3) := by decide +kernel
theorem dX11_init_172 : decode cX11_init 172 = .ok (.return_, 1) := by decide +kernel
theorem dX11_feed_0 : decode cX11_feed 0 = .ok (.aload_n 0, 1) := by decide +kernel
theorem dX11_feed_1 : decode cX11_feed 1 = .ok (.getfield 88, 3) := by decide +kernel
theorem dX11_feed_4 : decode cX11_feed 4 = .ok (.bipush 20, 2) := by decide +kernel
theorem dX11_feed_6 : decode cX11_feed 6 = .ok (.iadd, 1) := by decide +kernel
theorem dX11_feed_7 : decode cX11_feed 7 = .ok (.sipush 400, 3) := by decide +kernel
theorem dX11_feed_10 : decode cX11_feed 10 = .ok (.if_icmp .le 5, 3) := by decide +kernel
theorem dX11_feed_13 : decode cX11_feed 13 = .ok (.iconst (-1), 1) := by decide +kernel
theorem dX11_feed_14 : decode cX11_feed 14 = .ok (.ireturn, 1) := by decide +kernel
theorem dX11_feed_15 : decode cX11_feed 15 = .ok (.aload_n 0, 1) := by decide +kernel
theorem dX11_feed_16 : decode cX11_feed 16 = .ok (.iload_n 1, 1) := by decide +kernel
theorem dX11_feed_17 : decode cX11_feed 17 = .ok (.invokevirtual 91, 3) := by decide +kernel
theorem dX11_feed_20 : decode cX11_feed 20 = .ok (.aload_n 0, 1) := by decide +kernel
theorem dX11_feed_21 : decode cX11_feed 21 = .ok (.iload_n 2, 1) := by decide +kernel
theorem dX11_feed_22 : decode cX11_feed 22 = .ok (.invokevirtual 91, 3) := by decide +kernel
theorem dX11_feed_25 : decode cX11_feed 25 = .ok (.aload_n 0, 1) := by decide +kernel
theorem dX11_feed_26 : decode cX11_feed 26 = .ok (.iload_n 3, 1) := by decide +kernel
theorem dX11_feed_27 : decode cX11_feed 27 = .ok (.invokevirtual 91, 3) := by decide +kernel
theorem dX11_feed_30 : decode cX11_feed 30 = .ok (.aload_n 0, 1) := by decide +kernel
theorem dX11_feed_31 : decode cX11_feed 31 = .ok (.iload 4, 2) := by decide +kernel
theorem dX11_feed_33 : decode cX11_feed 33 = .ok (.invokevirtual 91, 3) := by decide +kernel
theorem dX11_feed_36 : decode cX11_feed 36 = .ok (.aload_n 0, 1) := by decide +kernel
theorem dX11_feed_37 : decode cX11_feed 37 = .ok (.iload 5, 2) := by decide +kernel
theorem dX11_feed_39 : decode cX11_feed 39 = .ok (.invokevirtual 91, 3) := by decide +kernel
theorem dX11_feed_42 : decode cX11_feed 42 = .ok (.aload_n 0, 1) := by decide +kernel
theorem dX11_feed_43 : decode cX11_feed 43 = .ok (.getfield 88, 3) := by decide +kernel
theorem dX11_feed_46 : decode cX11_feed 46 = .ok (.ireturn, 1) := by decide +kernel
theorem dX11_feedNumber_0 : decode cX11_feedNumber 0 = .ok (.bipush 24, 2) := by decide +kernel
theorem dX11_feedNumber_2 : decode cX11_feedNumber 2 = .ok (.istore_n 2, 1) := by decide +kernel
theorem dX11_feedNumber_3 : decode cX11_feedNumber 3 = .ok (.iload_n 2, 1) := by decide +kernel
theorem dX11_feedNumber_4 : decode cX11_feedNumber 4 = .ok (.ifCond .lt 37, 3) := by decide +kernel
theorem dX11_feedNumber_7 : decode cX11_feedNumber 7 = .ok (.aload_n 0, 1) := by decide +kernel
theorem dX11_feedNumber_8 : decode cX11_feedNumber 8 = .ok (.getfield 14, 3) := by decide +kernel
theorem dX11_feedNumber_11 : decode cX11_feedNumber 11 = .ok (.aload_n 0, 1) := by decide +kernel
theorem dX11_feedNumber_12 : decode cX11_feedNumber 12 = .ok (.getfield 88, 3) := by decide +kernel
theorem dX11_feedNumber_15 : decode cX11_feedNumber 15 = .ok (.iload_n 1, 1) := by decide +kernel
theorem dX11_feedNumber_16 : decode cX11_feedNumber 16 = .ok (.iload_n 2, 1) := by decide +kernel
theorem dX11_feedNumber_17 : decode cX11_feedNumber 17 = .ok (.ishr, 1) := by decide +kernel
theorem dX11_feedNumber_18 : decode cX11_feedNumber 18 = .ok (.sipush 255, 3) := by decide +kernel
theorem dX11_feedNumber_21 : decode cX11_feedNumber 21 = .ok (.iand, 1) := by decide +kernel
theorem dX11_feedNumber_22 : decode cX11_feedNumber 22 = .ok (.invokevirtual 94, 3) := by decide +kernel
theorem dX11_feedNumber_25 : decode cX11_feedNumber 25 = .ok (.aload_n 0, 1) := by decide +kernel
theorem dX11_feedNumber_26 : decode cX11_feedNumber 26 = .ok (.dup, 1) := by decide +kernel
theorem dX11_feedNumber_27 : decode cX11_feedNumber 27 = .ok (.getfield 88, 3) := by decide +kernel
theorem dX11_feedNumber_30 : decode cX11_feedNumber 30 = .ok (.iconst 1, 1) := by decide +kernel
theorem dX11_feedNumber_31 : decode cX11_feedNumber 31 = .ok (.iadd, 1) := by decide +kernel
theorem dX11_feedNumber_32 : decode cX11_feedNumber 32 = .ok (.putfield 88, 3) := by decide +kernel
theorem dX11_feedNumber_35 : decode cX11_feedNumber 35 = .ok (.iinc 2 (-8), 3) := by decide +kernel
theorem dX11_feedNumber_38 : decode cX11_feedNumber 38 = .ok (.goto (-35), 3) := by decide +kernel
theorem dX11_feedNumber_41 : decode cX11_feedNumber 41 = .ok (.return_, 1) := by decide +kernel
theorem dX11_end_0 : decode cX11_end 0 = .ok (.iload_n 1, 1) := by decide +kernel
theorem dX11_end_1 : decode cX11_end 1 = .ok (.ifCond .lt 11, 3) := by decide +kernel
theorem dX11_end_4 : decode cX11_end 4 = .ok (.iload_n 1, 1) := by decide +kernel
theorem dX11_end_5 : decode cX11_end 5 = .ok (.aload_n 0, 1) := by decide +kernel
theorem dX11_end_6 : decode cX11_end 6 = .ok (.getfield 88, 3) := by decide +kernel
theorem dX11_end_9 : decode cX11_end 9 = .ok (.if_icmp .le 5, 3) := by decide +kernel
theorem dX11_end_12 : decode cX11_end 12 = .ok (.iconst 0, 1) := by decide +kernel
theorem dX11_end_13 : decode cX11_end 13 = .ok (.ireturn, 1) := by decide +kernel
theorem dX11_end_14 : decode cX11_end 14 = .ok (.aload_n 0, 1) := by decide +kernel
theorem dX11_end_15 : decode cX11_end 15 = .ok (.iload_n 1, 1) := by decide +kernel
theorem dX11_end_16 : decode cX11_end 16 = .ok (.putfield 88, 3) := by decide +kernel
theorem dX11_end_19 : decode cX11_end 19 = .ok (.iconst 1, 1) := by decide +kernel
theorem dX11_end_20 : decode cX11_end 20 = .ok (.ireturn, 1) := by decide +kernel
theorem dX11_useTapeUp_0 : decode cX11_useTapeUp 0 = .ok (.aload_n 0, 1) := by decide +kernel
theorem dX11_useTapeUp_1 : decode cX11_useTapeUp 1 = .ok (.getfield 88, 3) := by decide +kernel
theorem dX11_useTapeUp_4 : decode cX11_useTapeUp 4 = .ok (.istore_n 1, 1) := by decide +kernel
theorem dX11_useTapeUp_5 : decode cX11_useTapeUp 5 = .ok (.aload_n 0, 1) := by decide +kernel
theorem dX11_useTapeUp_6 : decode cX11_useTapeUp 6 = .ok (.iconst 0, 1) := by decide +kernel
theorem dX11_useTapeUp_7 : decode cX11_useTapeUp 7 = .ok (.putfield 88, 3) := by decide +kernel
theorem dX11_useTapeUp_10 : decode cX11_useTapeUp 10 = .ok (.iload_n 1, 1) := by decide +kernel
theorem dX11_useTapeUp_11 : decode cX11_useTapeUp 11 = .ok (.ireturn, 1) := by decide +kernel
theorem dX11_town_0 : decode cX11_town 0 = .ok (.aload_n 0, 1) := by decide +kernel
theorem dX11_town_1 : decode cX11_town 1 = .ok (.getfield 45, 3) := by decide +kernel
theorem dX11_town_4 : decode cX11_town 4 = .ok (.getfield 98, 3) := by decide +kernel
theorem dX11_town_7 : decode cX11_town 7 = .ok (.aload_n 0, 1) := by decide +kernel
theorem dX11_town_8 : decode cX11_town 8 = .ok (.getfield 21, 3) := by decide +kernel
theorem dX11_town_11 : decode cX11_town 11 = .ok (.invokevirtual 101, 3) := by decide +kernel
theorem dX11_town_14 : decode cX11_town 14 = .ok (.aload_n 0, 1) := by decide +kernel
theorem dX11_town_15 : decode cX11_town 15 = .ok (.getfield 45, 3) := by decide +kernel
theorem dX11_town_18 : decode cX11_town 18 = .ok (.aload_n 0, 1) := by decide +kernel
theorem dX11_town_19 : decode cX11_town 19 = .ok (.getfield 14, 3) := by decide +kernel
theorem dX11_town_22 : decode cX11_town 22 = .ok (.aload_n 0, 1) := by decide +kernel
theorem dX11_town_23 : decode cX11_town 23 = .ok (.invokevirtual 105, 3) := by decide +kernel
theorem dX11_town_26 : decode cX11_town 26 = .ok (.bipush 14, 2) := by decide +kernel
theorem dX11_town_28 : decode cX11_town 28 = .ok (.invokevirtual 109, 3) := by decide +kernel
theorem dX11_town_31 : decode cX11_town 31 = .ok (.pop, 1) := by decide +kernel
theorem dX11_town_32 : decode cX11_town 32 = .ok (.aload_n 0, 1) := by decide +kernel
theorem dX11_town_33 : decode cX11_town 33 = .ok (.aload_n 0, 1) := by decide +kernel
theorem dX11_town_34 : decode cX11_town 34 = .ok (.getfield 45, 3) := by decide +kernel
theorem dX11_town_37 : decode cX11_town 37 = .ok (.getfield 113, 3) := by decide +kernel
theorem dX11_town_40 : decode cX11_town 40 = .ok (.putfield 84, 3) := by decide +kernel
theorem dX11_town_43 : decode cX11_town 43 = .ok (.aload_n 0, 1) := by decide +kernel
theorem dX11_town_44 : decode cX11_town 44 = .ok (.getfield 84, 3) := by decide +kernel
theorem dX11_town_47 : decode cX11_town 47 = .ok (.iconst (-1), 1) := by decide +kernel
theorem dX11_town_48 : decode cX11_town 48 = .ok (.if_icmp .eq 13, 3) := by decide +kernel
theorem dX11_town_51 : decode cX11_town 51 = .ok (.new 116, 3) := by decide +kernel
theorem dX11_town_54 : decode cX11_town 54 = .ok (.dup, 1) := by decide +kernel
theorem dX11_town_55 : decode cX11_town 55 = .ok (.ldc 118, 2) := by decide +kernel
theorem dX11_town_57 : decode cX11_town 57 = .ok (.invokespecial 120, 3) := by decide +kernel
theorem dX11_town_60 : decode cX11_town 60 = .ok (.athrow, 1) := by decide +kernel
theorem dX11_town_61 : decode cX11_town 61 = .ok (.aload_n 0, 1) := by decide +kernel
theorem dX11_town_62 : decode cX11_town 62 = .ok (.getfield 21, 3) := by decide +kernel
theorem dX11_town_65 : decode cX11_town 65 = .ok (.getfield 123, 3) := by decide +kernel
theorem dX11_town_68 : decode cX11_town 68 = .ok (.bipush 12, 2) := by decide +kernel
theorem dX11_town_70 : decode cX11_town 70 = .ok (.if_icmp .lt 13, 3) := by decide +kernel
theorem dX11_town_73 : decode cX11_town 73 = .ok (.new 126, 3) := by decide +kernel
theorem dX11_town_76 : decode cX11_town 76 = .ok (.dup, 1) := by decide +kernel
theorem dX11_town_77 : decode cX11_town 77 = .ok (.ldc 128, 2) := by decide +kernel
theorem dX11_town_79 : decode cX11_town 79 = .ok (.invokespecial 130, 3) := by decide +kernel
theorem dX11_town_82 : decode cX11_town 82 = .ok (.athrow, 1) := by decide +kernel
theorem dX11_town_83 : decode cX11_town 83 = .ok (.aload_n 0, 1) := by decide +kernel
theorem dX11_town_84 : decode cX11_town 84 = .ok (.getfield 21, 3) := by decide +kernel
theorem dX11_town_87 : decode cX11_town 87 = .ok (.aload_n 0, 1) := by decide +kernel
theorem dX11_town_88 : decode cX11_town 88 = .ok (.getfield 45, 3) := by decide +kernel
theorem dX11_town_91 : decode cX11_town 91 = .ok (.getfield 98, 3) := by decide +kernel
theorem dX11_town_94 : decode cX11_town 94 = .ok (.invokevirtual 101, 3) := by decide +kernel
theorem dX11_town_97 : decode cX11_town 97 = .ok (.aload_n 0, 1) := by decide +kernel
theorem dX11_town_98 : decode cX11_town 98 = .ok (.getfield 21, 3) := by decide +kernel
theorem dX11_town_101 : decode cX11_town 101 = .ok (.dup, 1) := by decide +kernel
theorem dX11_town_102 : decode cX11_town 102 = .ok (.getfield 123, 3) := by decide +kernel
theorem dX11_town_105 : decode cX11_town 105 = .ok (.iconst 1, 1) := by decide +kernel
theorem dX11_town_106 : decode cX11_town 106 = .ok (.iadd, 1) := by decide +kernel
theorem dX11_town_107 : decode cX11_town 107 = .ok (.putfield 123, 3) := by decide +kernel
theorem dX11_town_110 : decode cX11_town 110 = .ok (.aload_n 0, 1) := by decide +kernel
theorem dX11_town_111 : decode cX11_town 111 = .ok (.invokevirtual 131, 3) := by decide +kernel
theorem dX11_town_114 : decode cX11_town 114 = .ok (.aload_n 0, 1) := by decide +kernel
theorem dX11_town_115 : decode cX11_town 115 = .ok (.getfield 21, 3) := by decide +kernel
theorem dX11_town_118 : decode cX11_town 118 = .ok (.getfield 123, 3) := by decide +kernel
theorem dX11_town_121 : decode cX11_town 121 = .ok (.ireturn, 1) := by decide +kernel
theorem dX11_law_0 : decode cX11_law 0 = .ok (.aload_n 0, 1) := by decide +kernel
theorem dX11_law_1 : decode cX11_law 1 = .ok (.getfield 52, 3) := by decide +kernel
theorem dX11_law_4 : decode cX11_law 4 = .ok (.getfield 134, 3) := by decide +kernel
theorem dX11_law_7 : decode cX11_law 7 = .ok (.invokevirtual 136, 3) := by decide +kernel
theorem dX11_law_10 : decode cX11_law 10 = .ok (.aload_n 0, 1) := by decide +kernel
theorem dX11_law_11 : decode cX11_law 11 = .ok (.getfield 52, 3) := by decide +kernel
theorem dX11_law_14 : decode cX11_law 14 = .ok (.aload_n 0, 1) := by decide +kernel
theorem dX11_law_15 : decode cX11_law 15 = .ok (.getfield 14, 3) := by decide +kernel
theorem dX11_law_18 : decode cX11_law 18 = .ok (.aload_n 0, 1) := by decide +kernel
theorem dX11_law_19 : decode cX11_law 19 = .ok (.invokevirtual 105, 3) := by decide +kernel
theorem dX11_law_22 : decode cX11_law 22 = .ok (.bipush 12, 2) := by decide +kernel
theorem dX11_law_24 : decode cX11_law 24 = .ok (.invokevirtual 139, 3) := by decide +kernel
theorem dX11_law_27 : decode cX11_law 27 = .ok (.istore_n 1, 1) := by decide +kernel
theorem dX11_law_28 : decode cX11_law 28 = .ok (.aload_n 0, 1) := by decide +kernel
theorem dX11_law_29 : decode cX11_law 29 = .ok (.aload_n 0, 1) := by decide +kernel
theorem dX11_law_30 : decode cX11_law 30 = .ok (.getfield 52, 3) := by decide +kernel
theorem dX11_law_33 : decode cX11_law 33 = .ok (.getfield 140, 3) := by decide +kernel
theorem dX11_law_36 : decode cX11_law 36 = .ok (.putfield 84, 3) := by decide +kernel
theorem dX11_law_39 : decode cX11_law 39 = .ok (.aload_n 0, 1) := by decide +kernel
theorem dX11_law_40 : decode cX11_law 40 = .ok (.getfield 84, 3) := by decide +kernel
theorem dX11_law_43 : decode cX11_law 43 = .ok (.iconst (-1), 1) := by decide +kernel
theorem dX11_law_44 : decode cX11_law 44 = .ok (.if_icmp .eq 13, 3) := by decide +kernel
theorem dX11_law_47 : decode cX11_law 47 = .ok (.new 116, 3) := by decide +kernel
theorem dX11_law_50 : decode cX11_law 50 = .ok (.dup, 1) := by decide +kernel
theorem dX11_law_51 : decode cX11_law 51 = .ok (.ldc 141, 2) := by decide +kernel
theorem dX11_law_53 : decode cX11_law 53 = .ok (.invokespecial 120, 3) := by decide +kernel
theorem dX11_law_56 : decode cX11_law 56 = .ok (.athrow, 1) := by decide +kernel
theorem dX11_law_57 : decode cX11_law 57 = .ok (.aload_n 0, 1) := by decide +kernel
theorem dX11_law_58 : decode cX11_law 58 = .ok (.getfield 28, 3) := by decide +kernel
theorem dX11_law_61 : decode cX11_law 61 = .ok (.aload_n 0, 1) := by decide +kernel
theorem dX11_law_62 : decode cX11_law 62 = .ok (.getfield 52, 3) := by decide +kernel
theorem dX11_law_65 : decode cX11_law 65 = .ok (.getfield 134, 3) := by decide +kernel
theorem dX11_law_68 : decode cX11_law 68 = .ok (.invokevirtual 143, 3) := by decide +kernel
theorem dX11_law_71 : decode cX11_law 71 = .ok (.aload_n 0, 1) := by decide +kernel
theorem dX11_law_72 : decode cX11_law 72 = .ok (.invokevirtual 131, 3) := by decide +kernel
theorem dX11_law_75 : decode cX11_law 75 = .ok (.iload_n 1, 1) := by decide +kernel
theorem dX11_law_76 : decode cX11_law 76 = .ok (.ireturn, 1) := by decide +kernel
theorem dX11_fault_0 : decode cX11_fault 0 = .ok (.aload_n 0, 1) := by decide +kernel
theorem dX11_fault_1 : decode cX11_fault 1 = .ok (.getfield 84, 3) := by decide +kernel
theorem dX11_fault_4 : decode cX11_fault 4 = .ok (.ireturn, 1) := by decide +kernel
theorem dX11_person_0 : decode cX11_person 0 = .ok (.aload_n 0, 1) := by decide +kernel
theorem dX11_person_1 : decode cX11_person 1 = .ok (.iload_n 1, 1) := by decide +kernel
theorem dX11_person_2 : decode cX11_person 2 = .ok (.invokevirtual 146, 3) := by decide +kernel
theorem dX11_person_5 : decode cX11_person 5 = .ok (.iload_n 2, 1) := by decide +kernel
theorem dX11_person_6 : decode cX11_person 6 = .ok (.tableswitch 122 0 6 #[42, 54, 66, 75, 87, 104, 113], 42) := by decide +kernel
theorem dX11_person_48 : decode cX11_person 48 = .ok (.aload_n 0, 1) := by decide +kernel
theorem dX11_person_49 : decode cX11_person 49 = .ok (.getfield 21, 3) := by decide +kernel
theorem dX11_person_52 : decode cX11_person 52 = .ok (.getfield 149, 3) := by decide +kernel
theorem dX11_person_55 : decode cX11_person 55 = .ok (.iload_n 1, 1) := by decide +kernel
theorem dX11_person_56 : decode cX11_person 56 = .ok (.invokevirtual 152, 3) := by decide +kernel
theorem dX11_person_59 : decode cX11_person 59 = .ok (.ireturn, 1) := by decide +kernel
theorem dX11_person_60 : decode cX11_person 60 = .ok (.aload_n 0, 1) := by decide +kernel
theorem dX11_person_61 : decode cX11_person 61 = .ok (.getfield 21, 3) := by decide +kernel
theorem dX11_person_64 : decode cX11_person 64 = .ok (.getfield 156, 3) := by decide +kernel
theorem dX11_person_67 : decode cX11_person 67 = .ok (.iload_n 1, 1) := by decide +kernel
theorem dX11_person_68 : decode cX11_person 68 = .ok (.invokevirtual 152, 3) := by decide +kernel
theorem dX11_person_71 : decode cX11_person 71 = .ok (.ireturn, 1) := by decide +kernel
theorem dX11_person_72 : decode cX11_person 72 = .ok (.aload_n 0, 1) := by decide +kernel
theorem dX11_person_73 : decode cX11_person 73 = .ok (.getfield 21, 3) := by decide +kernel
theorem dX11_person_76 : decode cX11_person 76 = .ok (.iload_n 1, 1) := by decide +kernel
theorem dX11_person_77 : decode cX11_person 77 = .ok (.invokevirtual 159, 3) := by decide +kernel
theorem dX11_person_80 : decode cX11_person 80 = .ok (.ireturn, 1) := by decide +kernel
theorem dX11_person_81 : decode cX11_person 81 = .ok (.aload_n 0, 1) := by decide +kernel
theorem dX11_person_82 : decode cX11_person 82 = .ok (.getfield 21, 3) := by decide +kernel
theorem dX11_person_85 : decode cX11_person 85 = .ok (.getfield 162, 3) := by decide +kernel
theorem dX11_person_88 : decode cX11_person 88 = .ok (.iload_n 1, 1) := by decide +kernel
theorem dX11_person_89 : decode cX11_person 89 = .ok (.invokevirtual 152, 3) := by decide +kernel
theorem dX11_person_92 : decode cX11_person 92 = .ok (.ireturn, 1) := by decide +kernel
theorem dX11_person_93 : decode cX11_person 93 = .ok (.aload_n 0, 1) := by decide +kernel
theorem dX11_person_94 : decode cX11_person 94 = .ok (.getfield 21, 3) := by decide +kernel
theorem dX11_person_97 : decode cX11_person 97 = .ok (.iload_n 1, 1) := by decide +kernel
theorem dX11_person_98 : decode cX11_person 98 = .ok (.invokevirtual 165, 3) := by decide +kernel
theorem dX11_person_101 : decode cX11_person 101 = .ok (.ifCond .eq 7, 3) := by decide +kernel
theorem dX11_person_104 : decode cX11_person 104 = .ok (.iconst 1, 1) := by decide +kernel
theorem dX11_person_105 : decode cX11_person 105 = .ok (.goto 4, 3) := by decide +kernel
theorem dX11_person_108 : decode cX11_person 108 = .ok (.iconst 0, 1) := by decide +kernel
theorem dX11_person_109 : decode cX11_person 109 = .ok (.ireturn, 1) := by decide +kernel
theorem dX11_person_110 : decode cX11_person 110 = .ok (.aload_n 0, 1) := by decide +kernel
theorem dX11_person_111 : decode cX11_person 111 = .ok (.getfield 21, 3) := by decide +kernel
theorem dX11_person_114 : decode cX11_person 114 = .ok (.iload_n 1, 1) := by decide +kernel
theorem dX11_person_115 : decode cX11_person 115 = .ok (.invokevirtual 169, 3) := by decide +kernel
theorem dX11_person_118 : decode cX11_person 118 = .ok (.ireturn, 1) := by decide +kernel
theorem dX11_person_119 : decode cX11_person 119 = .ok (.aload_n 0, 1) := by decide +kernel
theorem dX11_person_120 : decode cX11_person 120 = .ok (.getfield 21, 3) := by decide +kernel
theorem dX11_person_123 : decode cX11_person 123 = .ok (.iload_n 1, 1) := by decide +kernel
theorem dX11_person_124 : decode cX11_person 124 = .ok (.invokevirtual 172, 3) := by decide +kernel
theorem dX11_person_127 : decode cX11_person 127 = .ok (.ireturn, 1) := by decide +kernel
theorem dX11_person_128 : decode cX11_person 128 = .ok (.new 175, 3) := by decide +kernel
theorem dX11_person_131 : decode cX11_person 131 = .ok (.dup, 1) := by decide +kernel
theorem dX11_person_132 : decode cX11_person 132 = .ok (.ldc 177, 2) := by decide +kernel
theorem dX11_person_134 : decode cX11_person 134 = .ok (.invokespecial 179, 3) := by decide +kernel
theorem dX11_person_137 : decode cX11_person 137 = .ok (.athrow, 1) := by decide +kernel
theorem dX11_liking_0 : decode cX11_liking 0 = .ok (.aload_n 0, 1) := by decide +kernel
theorem dX11_liking_1 : decode cX11_liking 1 = .ok (.iload_n 1, 1) := by decide +kernel
theorem dX11_liking_2 : decode cX11_liking 2 = .ok (.iload_n 2, 1) := by decide +kernel
theorem dX11_liking_3 : decode cX11_liking 3 = .ok (.invokevirtual 180, 3) := by decide +kernel
theorem dX11_liking_6 : decode cX11_liking 6 = .ok (.aload_n 0, 1) := by decide +kernel
theorem dX11_liking_7 : decode cX11_liking 7 = .ok (.getfield 21, 3) := by decide +kernel
theorem dX11_liking_10 : decode cX11_liking 10 = .ok (.iload_n 1, 1) := by decide +kernel
theorem dX11_liking_11 : decode cX11_liking 11 = .ok (.iload_n 2, 1) := by decide +kernel
theorem dX11_liking_12 : decode cX11_liking 12 = .ok (.invokevirtual 183, 3) := by decide +kernel
theorem dX11_liking_15 : decode cX11_liking 15 = .ok (.ireturn, 1) := by decide +kernel
theorem dX11_match_0 : decode cX11_match 0 = .ok (.aload_n 0, 1) := by decide +kernel
theorem dX11_match_1 : decode cX11_match 1 = .ok (.iload_n 1, 1) := by decide +kernel
theorem dX11_match_2 : decode cX11_match 2 = .ok (.invokevirtual 187, 3) := by decide +kernel
theorem dX11_match_5 : decode cX11_match 5 = .ok (.iload_n 2, 1) := by decide +kernel
theorem dX11_match_6 : decode cX11_match 6 = .ok (.tableswitch 127 0 6 #[42, 51, 60, 72, 84, 101, 110], 42) := by decide +kernel
theorem dX11_match_48 : decode cX11_match 48 = .ok (.aload_n 0, 1) := by decide +kernel
theorem dX11_match_49 : decode cX11_match 49 = .ok (.getfield 21, 3) := by decide +kernel
theorem dX11_match_52 : decode cX11_match 52 = .ok (.iload_n 1, 1) := by decide +kernel
theorem dX11_match_53 : decode cX11_match 53 = .ok (.invokevirtual 190, 3) := by decide +kernel
theorem dX11_match_56 : decode cX11_match 56 = .ok (.ireturn, 1) := by decide +kernel
theorem dX11_match_57 : decode cX11_match 57 = .ok (.aload_n 0, 1) := by decide +kernel
theorem dX11_match_58 : decode cX11_match 58 = .ok (.getfield 21, 3) := by decide +kernel
theorem dX11_match_61 : decode cX11_match 61 = .ok (.iload_n 1, 1) := by decide +kernel
theorem dX11_match_62 : decode cX11_match 62 = .ok (.invokevirtual 193, 3) := by decide +kernel
theorem dX11_match_65 : decode cX11_match 65 = .ok (.ireturn, 1) := by decide +kernel
theorem dX11_match_66 : decode cX11_match 66 = .ok (.aload_n 0, 1) := by decide +kernel
theorem dX11_match_67 : decode cX11_match 67 = .ok (.getfield 21, 3) := by decide +kernel
theorem dX11_match_70 : decode cX11_match 70 = .ok (.getfield 196, 3) := by decide +kernel
theorem dX11_match_73 : decode cX11_match 73 = .ok (.iload_n 1, 1) := by decide +kernel
theorem dX11_match_74 : decode cX11_match 74 = .ok (.invokevirtual 152, 3) := by decide +kernel
theorem dX11_match_77 : decode cX11_match 77 = .ok (.ireturn, 1) := by decide +kernel
theorem dX11_match_78 : decode cX11_match 78 = .ok (.aload_n 0, 1) := by decide +kernel
theorem dX11_match_79 : decode cX11_match 79 = .ok (.getfield 21, 3) := by decide +kernel
theorem dX11_match_82 : decode cX11_match 82 = .ok (.getfield 199, 3) := by decide +kernel
theorem dX11_match_85 : decode cX11_match 85 = .ok (.iload_n 1, 1) := by decide +kernel
theorem dX11_match_86 : decode cX11_match 86 = .ok (.invokevirtual 152, 3) := by decide +kernel
theorem dX11_match_89 : decode cX11_match 89 = .ok (.ireturn, 1) := by decide +kernel
theorem dX11_match_90 : decode cX11_match 90 = .ok (.aload_n 0, 1) := by decide +kernel
theorem dX11_match_91 : decode cX11_match 91 = .ok (.getfield 21, 3) := by decide +kernel
theorem dX11_match_94 : decode cX11_match 94 = .ok (.iload_n 1, 1) := by decide +kernel
theorem dX11_match_95 : decode cX11_match 95 = .ok (.invokevirtual 202, 3) := by decide +kernel
theorem dX11_match_98 : decode cX11_match 98 = .ok (.ifCond .eq 7, 3) := by decide +kernel
theorem dX11_match_101 : decode cX11_match 101 = .ok (.iconst 1, 1) := by decide +kernel
theorem dX11_match_102 : decode cX11_match 102 = .ok (.goto 4, 3) := by decide +kernel
theorem dX11_match_105 : decode cX11_match 105 = .ok (.iconst 0, 1) := by decide +kernel
theorem dX11_match_106 : decode cX11_match 106 = .ok (.ireturn, 1) := by decide +kernel
theorem dX11_match_107 : decode cX11_match 107 = .ok (.aload_n 0, 1) := by decide +kernel
theorem dX11_match_108 : decode cX11_match 108 = .ok (.getfield 21, 3) := by decide +kernel
theorem dX11_match_111 : decode cX11_match 111 = .ok (.iload_n 1, 1) := by decide +kernel
theorem dX11_match_112 : decode cX11_match 112 = .ok (.invokevirtual 205, 3) := by decide +kernel
theorem dX11_match_115 : decode cX11_match 115 = .ok (.ireturn, 1) := by decide +kernel
theorem dX11_match_116 : decode cX11_match 116 = .ok (.aload_n 0, 1) := by decide +kernel
theorem dX11_match_117 : decode cX11_match 117 = .ok (.getfield 66, 3) := by decide +kernel
theorem dX11_match_120 : decode cX11_match 120 = .ok (.aload_n 0, 1) := by decide +kernel
theorem dX11_match_121 : decode cX11_match 121 = .ok (.getfield 21, 3) := by decide +kernel
theorem dX11_match_124 : decode cX11_match 124 = .ok (.aload_n 0, 1) := by decide +kernel
theorem dX11_match_125 : decode cX11_match 125 = .ok (.getfield 28, 3) := by decide +kernel
theorem dX11_match_128 : decode cX11_match 128 = .ok (.iload_n 1, 1) := by decide +kernel
theorem dX11_match_129 : decode cX11_match 129 = .ok (.invokevirtual 208, 3) := by decide +kernel
theorem dX11_match_132 : decode cX11_match 132 = .ok (.ireturn, 1) := by decide +kernel
theorem dX11_match_133 : decode cX11_match 133 = .ok (.new 175, 3) := by decide +kernel
theorem dX11_match_136 : decode cX11_match 136 = .ok (.dup, 1) := by decide +kernel
theorem dX11_match_137 : decode cX11_match 137 = .ok (.ldc 212, 2) := by decide +kernel
theorem dX11_match_139 : decode cX11_match 139 = .ok (.invokespecial 179, 3) := by decide +kernel
theorem dX11_match_142 : decode cX11_match 142 = .ok (.athrow, 1) := by decide +kernel
theorem dX11_ask_0 : decode cX11_ask 0 = .ok (.aload_n 0, 1) := by decide +kernel
theorem dX11_ask_1 : decode cX11_ask 1 = .ok (.iload_n 1, 1) := by decide +kernel
theorem dX11_ask_2 : decode cX11_ask 2 = .ok (.iload_n 2, 1) := by decide +kernel
theorem dX11_ask_3 : decode cX11_ask 3 = .ok (.invokevirtual 180, 3) := by decide +kernel
theorem dX11_ask_6 : decode cX11_ask 6 = .ok (.aload_n 0, 1) := by decide +kernel
theorem dX11_ask_7 : decode cX11_ask 7 = .ok (.invokevirtual 214, 3) := by decide +kernel
theorem dX11_ask_10 : decode cX11_ask 10 = .ok (.aload_n 0, 1) := by decide +kernel
theorem dX11_ask_11 : decode cX11_ask 11 = .ok (.getfield 21, 3) := by decide +kernel
theorem dX11_ask_14 : decode cX11_ask 14 = .ok (.iload_n 1, 1) := by decide +kernel
theorem dX11_ask_15 : decode cX11_ask 15 = .ok (.iload_n 2, 1) := by decide +kernel
theorem dX11_ask_16 : decode cX11_ask 16 = .ok (.invokevirtual 217, 3) := by decide +kernel
theorem dX11_ask_19 : decode cX11_ask 19 = .ok (.ireturn, 1) := by decide +kernel
theorem dX11_wed_0 : decode cX11_wed 0 = .ok (.aload_n 0, 1) := by decide +kernel
theorem dX11_wed_1 : decode cX11_wed 1 = .ok (.iload_n 1, 1) := by decide +kernel
theorem dX11_wed_2 : decode cX11_wed 2 = .ok (.iload_n 2, 1) := by decide +kernel
theorem dX11_wed_3 : decode cX11_wed 3 = .ok (.invokevirtual 180, 3) := by decide +kernel
theorem dX11_wed_6 : decode cX11_wed 6 = .ok (.aload_n 0, 1) := by decide +kernel
theorem dX11_wed_7 : decode cX11_wed 7 = .ok (.getfield 21, 3) := by decide +kernel
theorem dX11_wed_10 : decode cX11_wed 10 = .ok (.iload_n 1, 1) := by decide +kernel
theorem dX11_wed_11 : decode cX11_wed 11 = .ok (.invokevirtual 221, 3) := by decide +kernel
theorem dX11_wed_14 : decode cX11_wed 14 = .ok (.ifCond .ne 14, 3) := by decide +kernel
theorem dX11_wed_17 : decode cX11_wed 17 = .ok (.aload_n 0, 1) := by decide +kernel
theorem dX11_wed_18 : decode cX11_wed 18 = .ok (.getfield 21, 3) := by decide +kernel
theorem dX11_wed_21 : decode cX11_wed 21 = .ok (.iload_n 2, 1) := by decide +kernel
theorem dX11_wed_22 : decode cX11_wed 22 = .ok (.invokevirtual 221, 3) := by decide +kernel
theorem dX11_wed_25 : decode cX11_wed 25 = .ok (.ifCond .eq 13, 3) := by decide +kernel
theorem dX11_wed_28 : decode cX11_wed 28 = .ok (.new 224, 3) := by decide +kernel
theorem dX11_wed_31 : decode cX11_wed 31 = .ok (.dup, 1) := by decide +kernel
theorem dX11_wed_32 : decode cX11_wed 32 = .ok (.ldc 226, 2) := by decide +kernel
theorem dX11_wed_34 : decode cX11_wed 34 = .ok (.invokespecial 228, 3) := by decide +kernel
theorem dX11_wed_37 : decode cX11_wed 37 = .ok (.athrow, 1) := by decide +kernel
theorem dX11_wed_38 : decode cX11_wed 38 = .ok (.aload_n 0, 1) := by decide +kernel
theorem dX11_wed_39 : decode cX11_wed 39 = .ok (.getfield 21, 3) := by decide +kernel
theorem dX11_wed_42 : decode cX11_wed 42 = .ok (.getfield 229, 3) := by decide +kernel
theorem dX11_wed_45 : decode cX11_wed 45 = .ok (.bipush 20, 2) := by decide +kernel
theorem dX11_wed_47 : decode cX11_wed 47 = .ok (.if_icmp .lt 13, 3) := by decide +kernel
theorem dX11_wed_50 : decode cX11_wed 50 = .ok (.new 126, 3) := by decide +kernel
theorem dX11_wed_53 : decode cX11_wed 53 = .ok (.dup, 1) := by decide +kernel
theorem dX11_wed_54 : decode cX11_wed 54 = .ok (.ldc 232, 2) := by decide +kernel
theorem dX11_wed_56 : decode cX11_wed 56 = .ok (.invokespecial 130, 3) := by decide +kernel
theorem dX11_wed_59 : decode cX11_wed 59 = .ok (.athrow, 1) := by decide +kernel
theorem dX11_wed_60 : decode cX11_wed 60 = .ok (.aload_n 0, 1) := by decide +kernel
theorem dX11_wed_61 : decode cX11_wed 61 = .ok (.invokevirtual 214, 3) := by decide +kernel
theorem dX11_wed_64 : decode cX11_wed 64 = .ok (.aload_n 0, 1) := by decide +kernel
theorem dX11_wed_65 : decode cX11_wed 65 = .ok (.getfield 21, 3) := by decide +kernel
theorem dX11_wed_68 : decode cX11_wed 68 = .ok (.iload_n 1, 1) := by decide +kernel
theorem dX11_wed_69 : decode cX11_wed 69 = .ok (.iload_n 2, 1) := by decide +kernel
theorem dX11_wed_70 : decode cX11_wed 70 = .ok (.bipush 50, 2) := by decide +kernel
theorem dX11_wed_72 : decode cX11_wed 72 = .ok (.invokevirtual 234, 3) := by decide +kernel
theorem dX11_wed_75 : decode cX11_wed 75 = .ok (.ireturn, 1) := by decide +kernel
theorem dX11_gift_0 : decode cX11_gift 0 = .ok (.aload_n 0, 1) := by decide +kernel
theorem dX11_gift_1 : decode cX11_gift 1 = .ok (.iload_n 1, 1) := by decide +kernel
theorem dX11_gift_2 : decode cX11_gift 2 = .ok (.iload_n 2, 1) := by decide +kernel
theorem dX11_gift_3 : decode cX11_gift 3 = .ok (.invokevirtual 238, 3) := by decide +kernel
theorem dX11_gift_6 : decode cX11_gift 6 = .ok (.aload_n 0, 1) := by decide +kernel
theorem dX11_gift_7 : decode cX11_gift 7 = .ok (.getfield 21, 3) := by decide +kernel
theorem dX11_gift_10 : decode cX11_gift 10 = .ok (.getfield 149, 3) := by decide +kernel
theorem dX11_gift_13 : decode cX11_gift 13 = .ok (.iload_n 1, 1) := by decide +kernel
theorem dX11_gift_14 : decode cX11_gift 14 = .ok (.invokevirtual 152, 3) := by decide +kernel
theorem dX11_gift_17 : decode cX11_gift 17 = .ok (.bipush 10, 2) := by decide +kernel
theorem dX11_gift_19 : decode cX11_gift 19 = .ok (.if_icmp .ge 13, 3) := by decide +kernel
theorem dX11_gift_22 : decode cX11_gift 22 = .ok (.new 224, 3) := by decide +kernel
theorem dX11_gift_25 : decode cX11_gift 25 = .ok (.dup, 1) := by decide +kernel
theorem dX11_gift_26 : decode cX11_gift 26 = .ok (.ldc 241, 2) := by decide +kernel
theorem dX11_gift_28 : decode cX11_gift 28 = .ok (.invokespecial 228, 3) := by decide +kernel
theorem dX11_gift_31 : decode cX11_gift 31 = .ok (.athrow, 1) := by decide +kernel
theorem dX11_gift_32 : decode cX11_gift 32 = .ok (.aload_n 0, 1) := by decide +kernel
theorem dX11_gift_33 : decode cX11_gift 33 = .ok (.invokevirtual 214, 3) := by decide +kernel
theorem dX11_gift_36 : decode cX11_gift 36 = .ok (.aload_n 0, 1) := by decide +kernel
theorem dX11_gift_37 : decode cX11_gift 37 = .ok (.getfield 21, 3) := by decide +kernel
theorem dX11_gift_40 : decode cX11_gift 40 = .ok (.getfield 149, 3) := by decide +kernel
theorem dX11_gift_43 : decode cX11_gift 43 = .ok (.iload_n 1, 1) := by decide +kernel
theorem dX11_gift_44 : decode cX11_gift 44 = .ok (.aload_n 0, 1) := by decide +kernel
theorem dX11_gift_45 : decode cX11_gift 45 = .ok (.getfield 21, 3) := by decide +kernel
theorem dX11_gift_48 : decode cX11_gift 48 = .ok (.getfield 149, 3) := by decide +kernel
theorem dX11_gift_51 : decode cX11_gift 51 = .ok (.iload_n 1, 1) := by decide +kernel
theorem dX11_gift_52 : decode cX11_gift 52 = .ok (.invokevirtual 152, 3) := by decide +kernel
theorem dX11_gift_55 : decode cX11_gift 55 = .ok (.bipush 10, 2) := by decide +kernel
theorem dX11_gift_57 : decode cX11_gift 57 = .ok (.isub, 1) := by decide +kernel
theorem dX11_gift_58 : decode cX11_gift 58 = .ok (.invokevirtual 94, 3) := by decide +kernel
theorem dX11_gift_61 : decode cX11_gift 61 = .ok (.aload_n 0, 1) := by decide +kernel
theorem dX11_gift_62 : decode cX11_gift 62 = .ok (.getfield 21, 3) := by decide +kernel
theorem dX11_gift_65 : decode cX11_gift 65 = .ok (.iload_n 2, 1) := by decide +kernel
theorem dX11_gift_66 : decode cX11_gift 66 = .ok (.iconst 5, 1) := by decide +kernel
theorem dX11_gift_67 : decode cX11_gift 67 = .ok (.invokevirtual 243, 3) := by decide +kernel
theorem dX11_gift_70 : decode cX11_gift 70 = .ok (.ireturn, 1) := by decide +kernel
theorem dX11_meddle_0 : decode cX11_meddle 0 = .ok (.aload_n 0, 1) := by decide +kernel
theorem dX11_meddle_1 : decode cX11_meddle 1 = .ok (.iload_n 1, 1) := by decide +kernel
theorem dX11_meddle_2 : decode cX11_meddle 2 = .ok (.iload_n 2, 1) := by decide +kernel
theorem dX11_meddle_3 : decode cX11_meddle 3 = .ok (.invokevirtual 238, 3) := by decide +kernel
theorem dX11_meddle_6 : decode cX11_meddle 6 = .ok (.aload_n 0, 1) := by decide +kernel
theorem dX11_meddle_7 : decode cX11_meddle 7 = .ok (.invokevirtual 214, 3) := by decide +kernel
theorem dX11_meddle_10 : decode cX11_meddle 10 = .ok (.aload_n 0, 1) := by decide +kernel
theorem dX11_meddle_11 : decode cX11_meddle 11 = .ok (.getfield 21, 3) := by decide +kernel
theorem dX11_meddle_14 : decode cX11_meddle 14 = .ok (.iload_n 2, 1) := by decide +kernel
theorem dX11_meddle_15 : decode cX11_meddle 15 = .ok (.bipush (-5), 2) := by decide +kernel
theorem dX11_meddle_17 : decode cX11_meddle 17 = .ok (.invokevirtual 243, 3) := by decide +kernel
theorem dX11_meddle_20 : decode cX11_meddle 20 = .ok (.ireturn, 1) := by decide +kernel
theorem dX11_reinsure_0 : decode cX11_reinsure 0 = .ok (.aload_n 0, 1) := by decide +kernel
theorem dX11_reinsure_1 : decode cX11_reinsure 1 = .ok (.iload_n 1, 1) := by decide +kernel
theorem dX11_reinsure_2 : decode cX11_reinsure 2 = .ok (.invokevirtual 146, 3) := by decide +kernel
theorem dX11_reinsure_5 : decode cX11_reinsure 5 = .ok (.iload_n 2, 1) := by decide +kernel
theorem dX11_reinsure_6 : decode cX11_reinsure 6 = .ok (.iconst (-1), 1) := by decide +kernel
theorem dX11_reinsure_7 : decode cX11_reinsure 7 = .ok (.if_icmp .eq 9, 3) := by decide +kernel
theorem dX11_reinsure_10 : decode cX11_reinsure 10 = .ok (.aload_n 0, 1) := by decide +kernel
theorem dX11_reinsure_11 : decode cX11_reinsure 11 = .ok (.iload_n 1, 1) := by decide +kernel
theorem dX11_reinsure_12 : decode cX11_reinsure 12 = .ok (.iload_n 2, 1) := by decide +kernel
theorem dX11_reinsure_13 : decode cX11_reinsure 13 = .ok (.invokevirtual 180, 3) := by decide +kernel
theorem dX11_reinsure_16 : decode cX11_reinsure 16 = .ok (.aload_n 0, 1) := by decide +kernel
theorem dX11_reinsure_17 : decode cX11_reinsure 17 = .ok (.invokevirtual 214, 3) := by decide +kernel
theorem dX11_reinsure_20 : decode cX11_reinsure 20 = .ok (.aload_n 0, 1) := by decide +kernel
theorem dX11_reinsure_21 : decode cX11_reinsure 21 = .ok (.getfield 21, 3) := by decide +kernel
theorem dX11_reinsure_24 : decode cX11_reinsure 24 = .ok (.getfield 162, 3) := by decide +kernel
theorem dX11_reinsure_27 : decode cX11_reinsure 27 = .ok (.iload_n 1, 1) := by decide +kernel
theorem dX11_reinsure_28 : decode cX11_reinsure 28 = .ok (.invokevirtual 152, 3) := by decide +kernel
theorem dX11_reinsure_31 : decode cX11_reinsure 31 = .ok (.istore_n 3, 1) := by decide +kernel
theorem dX11_reinsure_32 : decode cX11_reinsure 32 = .ok (.aload_n 0, 1) := by decide +kernel
theorem dX11_reinsure_33 : decode cX11_reinsure 33 = .ok (.getfield 21, 3) := by decide +kernel
theorem dX11_reinsure_36 : decode cX11_reinsure 36 = .ok (.getfield 162, 3) := by decide +kernel
theorem dX11_reinsure_39 : decode cX11_reinsure 39 = .ok (.iload_n 1, 1) := by decide +kernel
theorem dX11_reinsure_40 : decode cX11_reinsure 40 = .ok (.iload_n 2, 1) := by decide +kernel
theorem dX11_reinsure_41 : decode cX11_reinsure 41 = .ok (.invokevirtual 94, 3) := by decide +kernel
theorem dX11_reinsure_44 : decode cX11_reinsure 44 = .ok (.iload_n 3, 1) := by decide +kernel
theorem dX11_reinsure_45 : decode cX11_reinsure 45 = .ok (.ireturn, 1) := by decide +kernel
theorem dX11_part_0 : decode cX11_part 0 = .ok (.aload_n 0, 1) := by decide +kernel
theorem dX11_part_1 : decode cX11_part 1 = .ok (.iload_n 1, 1) := by decide +kernel
theorem dX11_part_2 : decode cX11_part 2 = .ok (.invokevirtual 187, 3) := by decide +kernel
theorem dX11_part_5 : decode cX11_part 5 = .ok (.aload_n 0, 1) := by decide +kernel
theorem dX11_part_6 : decode cX11_part 6 = .ok (.iload_n 1, 1) := by decide +kernel
theorem dX11_part_7 : decode cX11_part 7 = .ok (.invokevirtual 246, 3) := by decide +kernel
theorem dX11_part_10 : decode cX11_part 10 = .ok (.aload_n 0, 1) := by decide +kernel
theorem dX11_part_11 : decode cX11_part 11 = .ok (.invokevirtual 214, 3) := by decide +kernel
theorem dX11_part_14 : decode cX11_part 14 = .ok (.aload_n 0, 1) := by decide +kernel
theorem dX11_part_15 : decode cX11_part 15 = .ok (.getfield 21, 3) := by decide +kernel
theorem dX11_part_18 : decode cX11_part 18 = .ok (.iload_n 1, 1) := by decide +kernel
theorem dX11_part_19 : decode cX11_part 19 = .ok (.invokevirtual 249, 3) := by decide +kernel
theorem dX11_part_22 : decode cX11_part 22 = .ok (.aload_n 0, 1) := by decide +kernel
theorem dX11_part_23 : decode cX11_part 23 = .ok (.getfield 21, 3) := by decide +kernel
theorem dX11_part_26 : decode cX11_part 26 = .ok (.getfield 196, 3) := by decide +kernel
theorem dX11_part_29 : decode cX11_part 29 = .ok (.iload_n 1, 1) := by decide +kernel
theorem dX11_part_30 : decode cX11_part 30 = .ok (.invokevirtual 152, 3) := by decide +kernel
theorem dX11_part_33 : decode cX11_part 33 = .ok (.ireturn, 1) := by decide +kernel
theorem dX11_months_0 : decode cX11_months 0 = .ok (.aload_n 0, 1) := by decide +kernel
theorem dX11_months_1 : decode cX11_months 1 = .ok (.iload_n 1, 1) := by decide +kernel
theorem dX11_months_2 : decode cX11_months 2 = .ok (.iconst 1, 1) := by decide +kernel
theorem dX11_months_3 : decode cX11_months 3 = .ok (.bipush 60, 2) := by decide +kernel
theorem dX11_months_5 : decode cX11_months 5 = .ok (.invokevirtual 252, 3) := by decide +kernel
theorem dX11_months_8 : decode cX11_months 8 = .ok (.aload_n 0, 1) := by decide +kernel
theorem dX11_months_9 : decode cX11_months 9 = .ok (.invokevirtual 214, 3) := by decide +kernel
theorem dX11_months_12 : decode cX11_months 12 = .ok (.aload_n 0, 1) := by decide +kernel
theorem dX11_months_13 : decode cX11_months 13 = .ok (.getfield 21, 3) := by decide +kernel
theorem dX11_months_16 : decode cX11_months 16 = .ok (.getfield 256, 3) := by decide +kernel
theorem dX11_months_19 : decode cX11_months 19 = .ok (.istore_n 2, 1) := by decide +kernel
theorem dX11_months_20 : decode cX11_months 20 = .ok (.iconst 0, 1) := by decide +kernel
theorem dX11_months_21 : decode cX11_months 21 = .ok (.istore_n 3, 1) := by decide +kernel
theorem dX11_months_22 : decode cX11_months 22 = .ok (.iload_n 3, 1) := by decide +kernel
theorem dX11_months_23 : decode cX11_months 23 = .ok (.iload_n 1, 1) := by decide +kernel
theorem dX11_months_24 : decode cX11_months 24 = .ok (.if_icmp .ge 24, 3) := by decide +kernel
theorem dX11_months_27 : decode cX11_months 27 = .ok (.aload_n 0, 1) := by decide +kernel
theorem dX11_months_28 : decode cX11_months 28 = .ok (.getfield 21, 3) := by decide +kernel
theorem dX11_months_31 : decode cX11_months 31 = .ok (.aload_n 0, 1) := by decide +kernel
theorem dX11_months_32 : decode cX11_months 32 = .ok (.getfield 28, 3) := by decide +kernel
theorem dX11_months_35 : decode cX11_months 35 = .ok (.aload_n 0, 1) := by decide +kernel
theorem dX11_months_36 : decode cX11_months 36 = .ok (.getfield 59, 3) := by decide +kernel
theorem dX11_months_39 : decode cX11_months 39 = .ok (.invokevirtual 259, 3) := by decide +kernel
theorem dX11_months_42 : decode cX11_months 42 = .ok (.iinc 3 1, 3) := by decide +kernel
theorem dX11_months_45 : decode cX11_months 45 = .ok (.goto (-23), 3) := by decide +kernel
theorem dX11_months_48 : decode cX11_months 48 = .ok (.aload_n 0, 1) := by decide +kernel
theorem dX11_months_49 : decode cX11_months 49 = .ok (.getfield 21, 3) := by decide +kernel
theorem dX11_months_52 : decode cX11_months 52 = .ok (.getfield 256, 3) := by decide +kernel
theorem dX11_months_55 : decode cX11_months 55 = .ok (.iload_n 2, 1) := by decide +kernel
theorem dX11_months_56 : decode cX11_months 56 = .ok (.isub, 1) := by decide +kernel
theorem dX11_months_57 : decode cX11_months 57 = .ok (.ireturn, 1) := by decide +kernel
theorem dX11_would_0 : decode cX11_would 0 = .ok (.aload_n 0, 1) := by decide +kernel
theorem dX11_would_1 : decode cX11_would 1 = .ok (.iload_n 1, 1) := by decide +kernel
theorem dX11_would_2 : decode cX11_would 2 = .ok (.iload_n 2, 1) := by decide +kernel
theorem dX11_would_3 : decode cX11_would 3 = .ok (.invokevirtual 180, 3) := by decide +kernel
theorem dX11_would_6 : decode cX11_would 6 = .ok (.aload_n 0, 1) := by decide +kernel
theorem dX11_would_7 : decode cX11_would 7 = .ok (.getfield 21, 3) := by decide +kernel
theorem dX11_would_10 : decode cX11_would 10 = .ok (.iload_n 1, 1) := by decide +kernel
theorem dX11_would_11 : decode cX11_would 11 = .ok (.iload_n 2, 1) := by decide +kernel
theorem dX11_would_12 : decode cX11_would 12 = .ok (.invokevirtual 263, 3) := by decide +kernel
theorem dX11_would_15 : decode cX11_would 15 = .ok (.ireturn, 1) := by decide +kernel
theorem dX11_best_0 : decode cX11_best 0 = .ok (.aload_n 0, 1) := by decide +kernel
theorem dX11_best_1 : decode cX11_best 1 = .ok (.iload_n 1, 1) := by decide +kernel
theorem dX11_best_2 : decode cX11_best 2 = .ok (.invokevirtual 146, 3) := by decide +kernel
theorem dX11_best_5 : decode cX11_best 5 = .ok (.aload_n 0, 1) := by decide +kernel
theorem dX11_best_6 : decode cX11_best 6 = .ok (.getfield 73, 3) := by decide +kernel
theorem dX11_best_9 : decode cX11_best 9 = .ok (.aload_n 0, 1) := by decide +kernel
theorem dX11_best_10 : decode cX11_best 10 = .ok (.getfield 21, 3) := by decide +kernel
theorem dX11_best_13 : decode cX11_best 13 = .ok (.iload_n 1, 1) := by decide +kernel
theorem dX11_best_14 : decode cX11_best 14 = .ok (.invokevirtual 266, 3) := by decide +kernel
theorem dX11_best_17 : decode cX11_best 17 = .ok (.ireturn, 1) := by decide +kernel
theorem dX11_next_0 : decode cX11_next 0 = .ok (.aload_n 0, 1) := by decide +kernel
theorem dX11_next_1 : decode cX11_next 1 = .ok (.iload_n 1, 1) := by decide +kernel
theorem dX11_next_2 : decode cX11_next 2 = .ok (.invokevirtual 187, 3) := by decide +kernel
theorem dX11_next_5 : decode cX11_next 5 = .ok (.aload_n 0, 1) := by decide +kernel
theorem dX11_next_6 : decode cX11_next 6 = .ok (.iload_n 2, 1) := by decide +kernel
theorem dX11_next_7 : decode cX11_next 7 = .ok (.invokevirtual 270, 3) := by decide +kernel
theorem dX11_next_10 : decode cX11_next 10 = .ok (.aload_n 0, 1) := by decide +kernel
theorem dX11_next_11 : decode cX11_next 11 = .ok (.getfield 21, 3) := by decide +kernel
theorem dX11_next_14 : decode cX11_next 14 = .ok (.iload_n 1, 1) := by decide +kernel
theorem dX11_next_15 : decode cX11_next 15 = .ok (.invokevirtual 202, 3) := by decide +kernel
theorem dX11_next_18 : decode cX11_next 18 = .ok (.ifCond .eq 7, 3) := by decide +kernel
theorem dX11_next_21 : decode cX11_next 21 = .ok (.iconst 0, 1) := by decide +kernel
theorem dX11_next_22 : decode cX11_next 22 = .ok (.goto 20, 3) := by decide +kernel
theorem dX11_next_25 : decode cX11_next 25 = .ok (.aload_n 0, 1) := by decide +kernel
theorem dX11_next_26 : decode cX11_next 26 = .ok (.getfield 66, 3) := by decide +kernel
theorem dX11_next_29 : decode cX11_next 29 = .ok (.aload_n 0, 1) := by decide +kernel
theorem dX11_next_30 : decode cX11_next 30 = .ok (.getfield 21, 3) := by decide +kernel
theorem dX11_next_33 : decode cX11_next 33 = .ok (.aload_n 0, 1) := by decide +kernel
theorem dX11_next_34 : decode cX11_next 34 = .ok (.getfield 28, 3) := by decide +kernel
theorem dX11_next_37 : decode cX11_next 37 = .ok (.iload_n 1, 1) := by decide +kernel
theorem dX11_next_38 : decode cX11_next 38 = .ok (.iload_n 2, 1) := by decide +kernel
theorem dX11_next_39 : decode cX11_next 39 = .ok (.invokevirtual 273, 3) := by decide +kernel
theorem dX11_next_42 : decode cX11_next 42 = .ok (.ireturn, 1) := by decide +kernel
theorem dX11_ahead_0 : decode cX11_ahead 0 = .ok (.aload_n 0, 1) := by decide +kernel
theorem dX11_ahead_1 : decode cX11_ahead 1 = .ok (.iload_n 1, 1) := by decide +kernel
theorem dX11_ahead_2 : decode cX11_ahead 2 = .ok (.invokevirtual 187, 3) := by decide +kernel
theorem dX11_ahead_5 : decode cX11_ahead 5 = .ok (.aload_n 0, 1) := by decide +kernel
theorem dX11_ahead_6 : decode cX11_ahead 6 = .ok (.iload_n 2, 1) := by decide +kernel
theorem dX11_ahead_7 : decode cX11_ahead 7 = .ok (.iconst 0, 1) := by decide +kernel
theorem dX11_ahead_8 : decode cX11_ahead 8 = .ok (.bipush 40, 2) := by decide +kernel
theorem dX11_ahead_10 : decode cX11_ahead 10 = .ok (.invokevirtual 252, 3) := by decide +kernel
theorem dX11_ahead_13 : decode cX11_ahead 13 = .ok (.aload_n 0, 1) := by decide +kernel
theorem dX11_ahead_14 : decode cX11_ahead 14 = .ok (.iload_n 3, 1) := by decide +kernel
theorem dX11_ahead_15 : decode cX11_ahead 15 = .ok (.invokevirtual 270, 3) := by decide +kernel
theorem dX11_ahead_18 : decode cX11_ahead 18 = .ok (.aload_n 0, 1) := by decide +kernel
theorem dX11_ahead_19 : decode cX11_ahead 19 = .ok (.getfield 21, 3) := by decide +kernel
theorem dX11_ahead_22 : decode cX11_ahead 22 = .ok (.iload_n 1, 1) := by decide +kernel
theorem dX11_ahead_23 : decode cX11_ahead 23 = .ok (.invokevirtual 202, 3) := by decide +kernel
theorem dX11_ahead_26 : decode cX11_ahead 26 = .ok (.ifCond .eq 7, 3) := by decide +kernel
theorem dX11_ahead_29 : decode cX11_ahead 29 = .ok (.iconst 0, 1) := by decide +kernel
theorem dX11_ahead_30 : decode cX11_ahead 30 = .ok (.goto 21, 3) := by decide +kernel
theorem dX11_ahead_33 : decode cX11_ahead 33 = .ok (.aload_n 0, 1) := by decide +kernel
theorem dX11_ahead_34 : decode cX11_ahead 34 = .ok (.getfield 66, 3) := by decide +kernel
theorem dX11_ahead_37 : decode cX11_ahead 37 = .ok (.aload_n 0, 1) := by decide +kernel
theorem dX11_ahead_38 : decode cX11_ahead 38 = .ok (.getfield 21, 3) := by decide +kernel
theorem dX11_ahead_41 : decode cX11_ahead 41 = .ok (.aload_n 0, 1) := by decide +kernel
theorem dX11_ahead_42 : decode cX11_ahead 42 = .ok (.getfield 28, 3) := by decide +kernel
theorem dX11_ahead_45 : decode cX11_ahead 45 = .ok (.iload_n 1, 1) := by decide +kernel
theorem dX11_ahead_46 : decode cX11_ahead 46 = .ok (.iload_n 2, 1) := by decide +kernel
theorem dX11_ahead_47 : decode cX11_ahead 47 = .ok (.iload_n 3, 1) := by decide +kernel
theorem dX11_ahead_48 : decode cX11_ahead 48 = .ok (.invokevirtual 277, 3) := by decide +kernel
theorem dX11_ahead_51 : decode cX11_ahead 51 = .ok (.ireturn, 1) := by decide +kernel
theorem dX11_first_0 : decode cX11_first 0 = .ok (.aload_n 0, 1) := by decide +kernel
theorem dX11_first_1 : decode cX11_first 1 = .ok (.iload_n 1, 1) := by decide +kernel
theorem dX11_first_2 : decode cX11_first 2 = .ok (.invokevirtual 187, 3) := by decide +kernel
theorem dX11_first_5 : decode cX11_first 5 = .ok (.aload_n 0, 1) := by decide +kernel
theorem dX11_first_6 : decode cX11_first 6 = .ok (.iload_n 2, 1) := by decide +kernel
theorem dX11_first_7 : decode cX11_first 7 = .ok (.invokevirtual 270, 3) := by decide +kernel
theorem dX11_first_10 : decode cX11_first 10 = .ok (.aload_n 0, 1) := by decide +kernel
theorem dX11_first_11 : decode cX11_first 11 = .ok (.getfield 21, 3) := by decide +kernel
theorem dX11_first_14 : decode cX11_first 14 = .ok (.iload_n 1, 1) := by decide +kernel
theorem dX11_first_15 : decode cX11_first 15 = .ok (.invokevirtual 202, 3) := by decide +kernel
theorem dX11_first_18 : decode cX11_first 18 = .ok (.ifCond .eq 7, 3) := by decide +kernel
theorem dX11_first_21 : decode cX11_first 21 = .ok (.iconst (-1), 1) := by decide +kernel
theorem dX11_first_22 : decode cX11_first 22 = .ok (.goto 20, 3) := by decide +kernel
theorem dX11_first_25 : decode cX11_first 25 = .ok (.aload_n 0, 1) := by decide +kernel
theorem dX11_first_26 : decode cX11_first 26 = .ok (.getfield 66, 3) := by decide +kernel
theorem dX11_first_29 : decode cX11_first 29 = .ok (.aload_n 0, 1) := by decide +kernel
theorem dX11_first_30 : decode cX11_first 30 = .ok (.getfield 21, 3) := by decide +kernel
theorem dX11_first_33 : decode cX11_first 33 = .ok (.aload_n 0, 1) := by decide +kernel
theorem dX11_first_34 : decode cX11_first 34 = .ok (.getfield 28, 3) := by decide +kernel
theorem dX11_first_37 : decode cX11_first 37 = .ok (.iload_n 1, 1) := by decide +kernel
theorem dX11_first_38 : decode cX11_first 38 = .ok (.iload_n 2, 1) := by decide +kernel
theorem dX11_first_39 : decode cX11_first 39 = .ok (.invokevirtual 281, 3) := by decide +kernel
theorem dX11_first_42 : decode cX11_first 42 = .ok (.ireturn, 1) := by decide +kernel
theorem dX11_odds_0 : decode cX11_odds 0 = .ok (.aload_n 0, 1) := by decide +kernel
theorem dX11_odds_1 : decode cX11_odds 1 = .ok (.iload_n 1, 1) := by decide +kernel
theorem dX11_odds_2 : decode cX11_odds 2 = .ok (.invokevirtual 187, 3) := by decide +kernel
theorem dX11_odds_5 : decode cX11_odds 5 = .ok (.aload_n 0, 1) := by decide +kernel
theorem dX11_odds_6 : decode cX11_odds 6 = .ok (.getfield 21, 3) := by decide +kernel
theorem dX11_odds_9 : decode cX11_odds 9 = .ok (.iload_n 1, 1) := by decide +kernel
theorem dX11_odds_10 : decode cX11_odds 10 = .ok (.invokevirtual 202, 3) := by decide +kernel
theorem dX11_odds_13 : decode cX11_odds 13 = .ok (.ifCond .eq 7, 3) := by decide +kernel
theorem dX11_odds_16 : decode cX11_odds 16 = .ok (.iconst 0, 1) := by decide +kernel
theorem dX11_odds_17 : decode cX11_odds 17 = .ok (.goto 19, 3) := by decide +kernel
theorem dX11_odds_20 : decode cX11_odds 20 = .ok (.aload_n 0, 1) := by decide +kernel
theorem dX11_odds_21 : decode cX11_odds 21 = .ok (.getfield 66, 3) := by decide +kernel
theorem dX11_odds_24 : decode cX11_odds 24 = .ok (.aload_n 0, 1) := by decide +kernel
theorem dX11_odds_25 : decode cX11_odds 25 = .ok (.getfield 21, 3) := by decide +kernel
theorem dX11_odds_28 : decode cX11_odds 28 = .ok (.aload_n 0, 1) := by decide +kernel
theorem dX11_odds_29 : decode cX11_odds 29 = .ok (.getfield 28, 3) := by decide +kernel
theorem dX11_odds_32 : decode cX11_odds 32 = .ok (.iload_n 1, 1) := by decide +kernel
theorem dX11_odds_33 : decode cX11_odds 33 = .ok (.invokevirtual 284, 3) := by decide +kernel
theorem dX11_odds_36 : decode cX11_odds 36 = .ok (.ireturn, 1) := by decide +kernel
theorem dX11_gifts_0 : decode cX11_gifts 0 = .ok (.aload_n 0, 1) := by decide +kernel
theorem dX11_gifts_1 : decode cX11_gifts 1 = .ok (.iload_n 1, 1) := by decide +kernel
theorem dX11_gifts_2 : decode cX11_gifts 2 = .ok (.invokevirtual 187, 3) := by decide +kernel
theorem dX11_gifts_5 : decode cX11_gifts 5 = .ok (.aload_n 0, 1) := by decide +kernel
theorem dX11_gifts_6 : decode cX11_gifts 6 = .ok (.iload_n 2, 1) := by decide +kernel
theorem dX11_gifts_7 : decode cX11_gifts 7 = .ok (.iconst 1, 1) := by decide +kernel
theorem dX11_gifts_8 : decode cX11_gifts 8 = .ok (.bipush 20, 2) := by decide +kernel
theorem dX11_gifts_10 : decode cX11_gifts 10 = .ok (.invokevirtual 252, 3) := by decide +kernel
theorem dX11_gifts_13 : decode cX11_gifts 13 = .ok (.aload_n 0, 1) := by decide +kernel
theorem dX11_gifts_14 : decode cX11_gifts 14 = .ok (.iload_n 3, 1) := by decide +kernel
theorem dX11_gifts_15 : decode cX11_gifts 15 = .ok (.invokevirtual 270, 3) := by decide +kernel
theorem dX11_gifts_18 : decode cX11_gifts 18 = .ok (.aload_n 0, 1) := by decide +kernel
theorem dX11_gifts_19 : decode cX11_gifts 19 = .ok (.getfield 21, 3) := by decide +kernel
theorem dX11_gifts_22 : decode cX11_gifts 22 = .ok (.iload_n 1, 1) := by decide +kernel
theorem dX11_gifts_23 : decode cX11_gifts 23 = .ok (.invokevirtual 202, 3) := by decide +kernel
theorem dX11_gifts_26 : decode cX11_gifts 26 = .ok (.ifCond .eq 7, 3) := by decide +kernel
theorem dX11_gifts_29 : decode cX11_gifts 29 = .ok (.iconst (-1), 1) := by decide +kernel
theorem dX11_gifts_30 : decode cX11_gifts 30 = .ok (.goto 21, 3) := by decide +kernel
theorem dX11_gifts_33 : decode cX11_gifts 33 = .ok (.aload_n 0, 1) := by decide +kernel
theorem dX11_gifts_34 : decode cX11_gifts 34 = .ok (.getfield 66, 3) := by decide +kernel
theorem dX11_gifts_37 : decode cX11_gifts 37 = .ok (.aload_n 0, 1) := by decide +kernel
theorem dX11_gifts_38 : decode cX11_gifts 38 = .ok (.getfield 21, 3) := by decide +kernel
theorem dX11_gifts_41 : decode cX11_gifts 41 = .ok (.aload_n 0, 1) := by decide +kernel
theorem dX11_gifts_42 : decode cX11_gifts 42 = .ok (.getfield 28, 3) := by decide +kernel
theorem dX11_gifts_45 : decode cX11_gifts 45 = .ok (.iload_n 1, 1) := by decide +kernel
theorem dX11_gifts_46 : decode cX11_gifts 46 = .ok (.iload_n 2, 1) := by decide +kernel
theorem dX11_gifts_47 : decode cX11_gifts 47 = .ok (.iload_n 3, 1) := by decide +kernel
theorem dX11_gifts_48 : decode cX11_gifts 48 = .ok (.invokevirtual 287, 3) := by decide +kernel
theorem dX11_gifts_51 : decode cX11_gifts 51 = .ok (.ireturn, 1) := by decide +kernel
theorem dX11_falls_0 : decode cX11_falls 0 = .ok (.aload_n 0, 1) := by decide +kernel
theorem dX11_falls_1 : decode cX11_falls 1 = .ok (.getfield 66, 3) := by decide +kernel
theorem dX11_falls_4 : decode cX11_falls 4 = .ok (.aload_n 0, 1) := by decide +kernel
theorem dX11_falls_5 : decode cX11_falls 5 = .ok (.getfield 21, 3) := by decide +kernel
theorem dX11_falls_8 : decode cX11_falls 8 = .ok (.invokevirtual 290, 3) := by decide +kernel
theorem dX11_falls_11 : decode cX11_falls 11 = .ok (.ireturn, 1) := by decide +kernel
theorem dX11_loses_0 : decode cX11_loses 0 = .ok (.aload_n 0, 1) := by decide +kernel
theorem dX11_loses_1 : decode cX11_loses 1 = .ok (.iload_n 1, 1) := by decide +kernel
theorem dX11_loses_2 : decode cX11_loses 2 = .ok (.invokevirtual 146, 3) := by decide +kernel
theorem dX11_loses_5 : decode cX11_loses 5 = .ok (.aload_n 0, 1) := by decide +kernel
theorem dX11_loses_6 : decode cX11_loses 6 = .ok (.getfield 66, 3) := by decide +kernel
theorem dX11_loses_9 : decode cX11_loses 9 = .ok (.aload_n 0, 1) := by decide +kernel
theorem dX11_loses_10 : decode cX11_loses 10 = .ok (.getfield 21, 3) := by decide +kernel
theorem dX11_loses_13 : decode cX11_loses 13 = .ok (.iload_n 1, 1) := by decide +kernel
theorem dX11_loses_14 : decode cX11_loses 14 = .ok (.invokevirtual 294, 3) := by decide +kernel
theorem dX11_loses_17 : decode cX11_loses 17 = .ok (.ireturn, 1) := by decide +kernel
theorem dX11_holds_0 : decode cX11_holds 0 = .ok (.aload_n 0, 1) := by decide +kernel
theorem dX11_holds_1 : decode cX11_holds 1 = .ok (.iload_n 1, 1) := by decide +kernel
theorem dX11_holds_2 : decode cX11_holds 2 = .ok (.invokevirtual 146, 3) := by decide +kernel
theorem dX11_holds_5 : decode cX11_holds 5 = .ok (.aload_n 0, 1) := by decide +kernel
theorem dX11_holds_6 : decode cX11_holds 6 = .ok (.getfield 66, 3) := by decide +kernel
theorem dX11_holds_9 : decode cX11_holds 9 = .ok (.aload_n 0, 1) := by decide +kernel
theorem dX11_holds_10 : decode cX11_holds 10 = .ok (.getfield 21, 3) := by decide +kernel
theorem dX11_holds_13 : decode cX11_holds 13 = .ok (.iload_n 1, 1) := by decide +kernel
theorem dX11_holds_14 : decode cX11_holds 14 = .ok (.invokevirtual 297, 3) := by decide +kernel
theorem dX11_holds_17 : decode cX11_holds 17 = .ok (.ireturn, 1) := by decide +kernel
theorem dX11_ring_0 : decode cX11_ring 0 = .ok (.aload_n 0, 1) := by decide +kernel
theorem dX11_ring_1 : decode cX11_ring 1 = .ok (.iload_n 1, 1) := by decide +kernel
theorem dX11_ring_2 : decode cX11_ring 2 = .ok (.invokevirtual 146, 3) := by decide +kernel
theorem dX11_ring_5 : decode cX11_ring 5 = .ok (.aload_n 0, 1) := by decide +kernel
theorem dX11_ring_6 : decode cX11_ring 6 = .ok (.getfield 21, 3) := by decide +kernel
theorem dX11_ring_9 : decode cX11_ring 9 = .ok (.iload_n 1, 1) := by decide +kernel
theorem dX11_ring_10 : decode cX11_ring 10 = .ok (.invokevirtual 300, 3) := by decide +kernel
theorem dX11_ring_13 : decode cX11_ring 13 = .ok (.ireturn, 1) := by decide +kernel
theorem dX11_rings_0 : decode cX11_rings 0 = .ok (.aload_n 0, 1) := by decide +kernel
theorem dX11_rings_1 : decode cX11_rings 1 = .ok (.getfield 21, 3) := by decide +kernel
theorem dX11_rings_4 : decode cX11_rings 4 = .ok (.invokevirtual 303, 3) := by decide +kernel
theorem dX11_rings_7 : decode cX11_rings 7 = .ok (.ireturn, 1) := by decide +kernel
theorem dX11_leans_0 : decode cX11_leans 0 = .ok (.aload_n 0, 1) := by decide +kernel
theorem dX11_leans_1 : decode cX11_leans 1 = .ok (.iload_n 1, 1) := by decide +kernel
theorem dX11_leans_2 : decode cX11_leans 2 = .ok (.invokevirtual 146, 3) := by decide +kernel
theorem dX11_leans_5 : decode cX11_leans 5 = .ok (.aload_n 0, 1) := by decide +kernel
theorem dX11_leans_6 : decode cX11_leans 6 = .ok (.getfield 21, 3) := by decide +kernel
theorem dX11_leans_9 : decode cX11_leans 9 = .ok (.iload_n 1, 1) := by decide +kernel
theorem dX11_leans_10 : decode cX11_leans 10 = .ok (.invokevirtual 306, 3) := by decide +kernel
theorem dX11_leans_13 : decode cX11_leans 13 = .ok (.ireturn, 1) := by decide +kernel
theorem dX11_rather_0 : decode cX11_rather 0 = .ok (.aload_n 0, 1) := by decide +kernel
theorem dX11_rather_1 : decode cX11_rather 1 = .ok (.iload_n 1, 1) := by decide +kernel
theorem dX11_rather_2 : decode cX11_rather 2 = .ok (.invokevirtual 146, 3) := by decide +kernel
theorem dX11_rather_5 : decode cX11_rather 5 = .ok (.aload_n 0, 1) := by decide +kernel
theorem dX11_rather_6 : decode cX11_rather 6 = .ok (.getfield 73, 3) := by decide +kernel
theorem dX11_rather_9 : decode cX11_rather 9 = .ok (.aload_n 0, 1) := by decide +kernel
theorem dX11_rather_10 : decode cX11_rather 10 = .ok (.getfield 21, 3) := by decide +kernel
theorem dX11_rather_13 : decode cX11_rather 13 = .ok (.iload_n 1, 1) := by decide +kernel
theorem dX11_rather_14 : decode cX11_rather 14 = .ok (.invokevirtual 309, 3) := by decide +kernel
theorem dX11_rather_17 : decode cX11_rather 17 = .ok (.ireturn, 1) := by decide +kernel
theorem dX11_lovers_0 : decode cX11_lovers 0 = .ok (.iload_n 1, 1) := by decide +kernel
theorem dX11_lovers_1 : decode cX11_lovers 1 = .ok (.ifCond .eq 17, 3) := by decide +kernel
theorem dX11_lovers_4 : decode cX11_lovers 4 = .ok (.aload_n 0, 1) := by decide +kernel
theorem dX11_lovers_5 : decode cX11_lovers 5 = .ok (.getfield 73, 3) := by decide +kernel
theorem dX11_lovers_8 : decode cX11_lovers 8 = .ok (.aload_n 0, 1) := by decide +kernel
theorem dX11_lovers_9 : decode cX11_lovers 9 = .ok (.getfield 21, 3) := by decide +kernel
theorem dX11_lovers_12 : decode cX11_lovers 12 = .ok (.invokevirtual 312, 3) := by decide +kernel
theorem dX11_lovers_15 : decode cX11_lovers 15 = .ok (.goto 14, 3) := by decide +kernel
theorem dX11_lovers_18 : decode cX11_lovers 18 = .ok (.aload_n 0, 1) := by decide +kernel
theorem dX11_lovers_19 : decode cX11_lovers 19 = .ok (.getfield 73, 3) := by decide +kernel
theorem dX11_lovers_22 : decode cX11_lovers 22 = .ok (.aload_n 0, 1) := by decide +kernel
theorem dX11_lovers_23 : decode cX11_lovers 23 = .ok (.getfield 21, 3) := by decide +kernel
theorem dX11_lovers_26 : decode cX11_lovers 26 = .ok (.invokevirtual 315, 3) := by decide +kernel
theorem dX11_lovers_29 : decode cX11_lovers 29 = .ok (.ireturn, 1) := by decide +kernel
theorem dX11_steady_0 : decode cX11_steady 0 = .ok (.iload_n 1, 1) := by decide +kernel
theorem dX11_steady_1 : decode cX11_steady 1 = .ok (.iconst (-1), 1) := by decide +kernel
theorem dX11_steady_2 : decode cX11_steady 2 = .ok (.if_icmp .ne 15, 3) := by decide +kernel
theorem dX11_steady_5 : decode cX11_steady 5 = .ok (.aload_n 0, 1) := by decide +kernel
theorem dX11_steady_6 : decode cX11_steady 6 = .ok (.getfield 73, 3) := by decide +kernel
theorem dX11_steady_9 : decode cX11_steady 9 = .ok (.aload_n 0, 1) := by decide +kernel
theorem dX11_steady_10 : decode cX11_steady 10 = .ok (.getfield 21, 3) := by decide +kernel
theorem dX11_steady_13 : decode cX11_steady 13 = .ok (.invokevirtual 318, 3) := by decide +kernel
theorem dX11_steady_16 : decode cX11_steady 16 = .ok (.ireturn, 1) := by decide +kernel
theorem dX11_steady_17 : decode cX11_steady 17 = .ok (.aload_n 0, 1) := by decide +kernel
theorem dX11_steady_18 : decode cX11_steady 18 = .ok (.iload_n 1, 1) := by decide +kernel
theorem dX11_steady_19 : decode cX11_steady 19 = .ok (.invokevirtual 146, 3) := by decide +kernel
theorem dX11_steady_22 : decode cX11_steady 22 = .ok (.aload_n 0, 1) := by decide +kernel
theorem dX11_steady_23 : decode cX11_steady 23 = .ok (.getfield 73, 3) := by decide +kernel
theorem dX11_steady_26 : decode cX11_steady 26 = .ok (.aload_n 0, 1) := by decide +kernel
theorem dX11_steady_27 : decode cX11_steady 27 = .ok (.getfield 21, 3) := by decide +kernel
theorem dX11_steady_30 : decode cX11_steady 30 = .ok (.iload_n 1, 1) := by decide +kernel
theorem dX11_steady_31 : decode cX11_steady 31 = .ok (.invokevirtual 321, 3) := by decide +kernel
theorem dX11_steady_34 : decode cX11_steady 34 = .ok (.ireturn, 1) := by decide +kernel
theorem dX11_weddings_0 : decode cX11_weddings 0 = .ok (.aload_n 0, 1) := by decide +kernel
theorem dX11_weddings_1 : decode cX11_weddings 1 = .ok (.getfield 73, 3) := by decide +kernel
theorem dX11_weddings_4 : decode cX11_weddings 4 = .ok (.aload_n 0, 1) := by decide +kernel
theorem dX11_weddings_5 : decode cX11_weddings 5 = .ok (.getfield 21, 3) := by decide +kernel
theorem dX11_weddings_8 : decode cX11_weddings 8 = .ok (.invokevirtual 324, 3) := by decide +kernel
theorem dX11_weddings_11 : decode cX11_weddings 11 = .ok (.ireturn, 1) := by decide +kernel
theorem dX11_anniversary_0 : decode cX11_anniversary 0 = .ok (.aload_n 0, 1) := by decide +kernel
theorem dX11_anniversary_1 : decode cX11_anniversary 1 = .ok (.invokevirtual 327, 3) := by decide +kernel
theorem dX11_anniversary_4 : decode cX11_anniversary 4 = .ok (.iload_n 1, 1) := by decide +kernel
theorem dX11_anniversary_5 : decode cX11_anniversary 5 = .ok (.ifCond .eq 13, 3) := by decide +kernel
theorem dX11_anniversary_8 : decode cX11_anniversary 8 = .ok (.aload_n 0, 1) := by decide +kernel
theorem dX11_anniversary_9 : decode cX11_anniversary 9 = .ok (.getfield 80, 3) := by decide +kernel
theorem dX11_anniversary_12 : decode cX11_anniversary 12 = .ok (.invokevirtual 330, 3) := by decide +kernel
theorem dX11_anniversary_15 : decode cX11_anniversary 15 = .ok (.goto 10, 3) := by decide +kernel
theorem dX11_anniversary_18 : decode cX11_anniversary 18 = .ok (.aload_n 0, 1) := by decide +kernel
theorem dX11_anniversary_19 : decode cX11_anniversary 19 = .ok (.getfield 80, 3) := by decide +kernel
theorem dX11_anniversary_22 : decode cX11_anniversary 22 = .ok (.invokevirtual 333, 3) := by decide +kernel
theorem dX11_anniversary_25 : decode cX11_anniversary 25 = .ok (.ireturn, 1) := by decide +kernel
theorem dX11_dance_0 : decode cX11_dance 0 = .ok (.aload_n 0, 1) := by decide +kernel
theorem dX11_dance_1 : decode cX11_dance 1 = .ok (.invokevirtual 327, 3) := by decide +kernel
theorem dX11_dance_4 : decode cX11_dance 4 = .ok (.aload_n 0, 1) := by decide +kernel
theorem dX11_dance_5 : decode cX11_dance 5 = .ok (.getfield 80, 3) := by decide +kernel
theorem dX11_dance_8 : decode cX11_dance 8 = .ok (.invokevirtual 336, 3) := by decide +kernel
theorem dX11_dance_11 : decode cX11_dance 11 = .ok (.ireturn, 1) := by decide +kernel
theorem dX11_readTold_0 : decode cX11_readTold 0 = .ok (.aload_n 0, 1) := by decide +kernel
theorem dX11_readTold_1 : decode cX11_readTold 1 = .ok (.getfield 80, 3) := by decide +kernel
theorem dX11_readTold_4 : decode cX11_readTold 4 = .ok (.aload_n 0, 1) := by decide +kernel
theorem dX11_readTold_5 : decode cX11_readTold 5 = .ok (.getfield 14, 3) := by decide +kernel
theorem dX11_readTold_8 : decode cX11_readTold 8 = .ok (.aload_n 0, 1) := by decide +kernel
theorem dX11_readTold_9 : decode cX11_readTold 9 = .ok (.invokevirtual 105, 3) := by decide +kernel
theorem dX11_readTold_12 : decode cX11_readTold 12 = .ok (.aload_n 0, 1) := by decide +kernel
theorem dX11_readTold_13 : decode cX11_readTold 13 = .ok (.getfield 21, 3) := by decide +kernel
theorem dX11_readTold_16 : decode cX11_readTold 16 = .ok (.getfield 339, 3) := by decide +kernel
theorem dX11_readTold_19 : decode cX11_readTold 19 = .ok (.invokevirtual 342, 3) := by decide +kernel
theorem dX11_readTold_22 : decode cX11_readTold 22 = .ok (.ifCond .ne 14, 3) := by decide +kernel
theorem dX11_readTold_25 : decode cX11_readTold 25 = .ok (.new 116, 3) := by decide +kernel
theorem dX11_readTold_28 : decode cX11_readTold 28 = .ok (.dup, 1) := by decide +kernel
theorem dX11_readTold_29 : decode cX11_readTold 29 = .ok (.ldc_w 346, 3) := by decide +kernel
theorem dX11_readTold_32 : decode cX11_readTold 32 = .ok (.invokespecial 120, 3) := by decide +kernel
theorem dX11_readTold_35 : decode cX11_readTold 35 = .ok (.athrow, 1) := by decide +kernel
theorem dX11_readTold_36 : decode cX11_readTold 36 = .ok (.return_, 1) := by decide +kernel
theorem dX11_richest_0 : decode cX11_richest 0 = .ok (.aload_n 0, 1) := by decide +kernel
theorem dX11_richest_1 : decode cX11_richest 1 = .ok (.getfield 21, 3) := by decide +kernel
theorem dX11_richest_4 : decode cX11_richest 4 = .ok (.invokevirtual 348, 3) := by decide +kernel
theorem dX11_richest_7 : decode cX11_richest 7 = .ok (.ireturn, 1) := by decide +kernel
theorem dX11_trial_0 : decode cX11_trial 0 = .ok (.aload_n 0, 1) := by decide +kernel
theorem dX11_trial_1 : decode cX11_trial 1 = .ok (.iload_n 1, 1) := by decide +kernel
theorem dX11_trial_2 : decode cX11_trial 2 = .ok (.iconst 0, 1) := by decide +kernel
theorem dX11_trial_3 : decode cX11_trial 3 = .ok (.bipush 40, 2) := by decide +kernel
theorem dX11_trial_5 : decode cX11_trial 5 = .ok (.invokevirtual 252, 3) := by decide +kernel
theorem dX11_trial_8 : decode cX11_trial 8 = .ok (.aload_n 0, 1) := by decide +kernel
theorem dX11_trial_9 : decode cX11_trial 9 = .ok (.getfield 66, 3) := by decide +kernel
theorem dX11_trial_12 : decode cX11_trial 12 = .ok (.aload_n 0, 1) := by decide +kernel
theorem dX11_trial_13 : decode cX11_trial 13 = .ok (.getfield 21, 3) := by decide +kernel
theorem dX11_trial_16 : decode cX11_trial 16 = .ok (.aload_n 0, 1) := by decide +kernel
theorem dX11_trial_17 : decode cX11_trial 17 = .ok (.getfield 28, 3) := by decide +kernel
theorem dX11_trial_20 : decode cX11_trial 20 = .ok (.iload_n 1, 1) := by decide +kernel
theorem dX11_trial_21 : decode cX11_trial 21 = .ok (.aload_n 0, 1) := by decide +kernel
theorem dX11_trial_22 : decode cX11_trial 22 = .ok (.getfield 21, 3) := by decide +kernel
theorem dX11_trial_25 : decode cX11_trial 25 = .ok (.getfield 351, 3) := by decide +kernel
theorem dX11_trial_28 : decode cX11_trial 28 = .ok (.invokevirtual 354, 3) := by decide +kernel
theorem dX11_trial_31 : decode cX11_trial 31 = .ok (.istore_n 3, 1) := by decide +kernel
theorem dX11_trial_32 : decode cX11_trial 32 = .ok (.iload_n 2, 1) := by decide +kernel
theorem dX11_trial_33 : decode cX11_trial 33 = .ok (.ifCond .eq 13, 3) := by decide +kernel
theorem dX11_trial_36 : decode cX11_trial 36 = .ok (.aload_n 0, 1) := by decide +kernel
theorem dX11_trial_37 : decode cX11_trial 37 = .ok (.getfield 66, 3) := by decide +kernel
theorem dX11_trial_40 : decode cX11_trial 40 = .ok (.invokevirtual 357, 3) := by decide +kernel
theorem dX11_trial_43 : decode cX11_trial 43 = .ok (.goto 4, 3) := by decide +kernel
theorem dX11_trial_46 : decode cX11_trial 46 = .ok (.iload_n 3, 1) := by decide +kernel
theorem dX11_trial_47 : decode cX11_trial 47 = .ok (.ireturn, 1) := by decide +kernel
theorem dX11_span_0 : decode cX11_span 0 = .ok (.aload_n 0, 1) := by decide +kernel
theorem dX11_span_1 : decode cX11_span 1 = .ok (.iload_n 1, 1) := by decide +kernel
theorem dX11_span_2 : decode cX11_span 2 = .ok (.iconst 0, 1) := by decide +kernel
theorem dX11_span_3 : decode cX11_span 3 = .ok (.bipush 40, 2) := by decide +kernel
theorem dX11_span_5 : decode cX11_span 5 = .ok (.invokevirtual 252, 3) := by decide +kernel
theorem dX11_span_8 : decode cX11_span 8 = .ok (.aload_n 0, 1) := by decide +kernel
theorem dX11_span_9 : decode cX11_span 9 = .ok (.getfield 66, 3) := by decide +kernel
theorem dX11_span_12 : decode cX11_span 12 = .ok (.aload_n 0, 1) := by decide +kernel
theorem dX11_span_13 : decode cX11_span 13 = .ok (.getfield 21, 3) := by decide +kernel
theorem dX11_span_16 : decode cX11_span 16 = .ok (.aload_n 0, 1) := by decide +kernel
theorem dX11_span_17 : decode cX11_span 17 = .ok (.getfield 28, 3) := by decide +kernel
theorem dX11_span_20 : decode cX11_span 20 = .ok (.iload_n 1, 1) := by decide +kernel
theorem dX11_span_21 : decode cX11_span 21 = .ok (.iconst 1, 1) := by decide +kernel
theorem dX11_span_22 : decode cX11_span 22 = .ok (.invokevirtual 354, 3) := by decide +kernel
theorem dX11_span_25 : decode cX11_span 25 = .ok (.istore_n 3, 1) := by decide +kernel
theorem dX11_span_26 : decode cX11_span 26 = .ok (.iconst 2, 1) := by decide +kernel
theorem dX11_span_27 : decode cX11_span 27 = .ok (.istore 4, 2) := by decide +kernel
theorem dX11_span_29 : decode cX11_span 29 = .ok (.iload 4, 2) := by decide +kernel
theorem dX11_span_31 : decode cX11_span 31 = .ok (.bipush 6, 2) := by decide +kernel
theorem dX11_span_33 : decode cX11_span 33 = .ok (.if_icmp .gt 49, 3) := by decide +kernel
theorem dX11_span_36 : decode cX11_span 36 = .ok (.aload_n 0, 1) := by decide +kernel
theorem dX11_span_37 : decode cX11_span 37 = .ok (.getfield 66, 3) := by decide +kernel
theorem dX11_span_40 : decode cX11_span 40 = .ok (.aload_n 0, 1) := by decide +kernel
theorem dX11_span_41 : decode cX11_span 41 = .ok (.getfield 21, 3) := by decide +kernel
theorem dX11_span_44 : decode cX11_span 44 = .ok (.aload_n 0, 1) := by decide +kernel
theorem dX11_span_45 : decode cX11_span 45 = .ok (.getfield 28, 3) := by decide +kernel
theorem dX11_span_48 : decode cX11_span 48 = .ok (.iload_n 1, 1) := by decide +kernel
theorem dX11_span_49 : decode cX11_span 49 = .ok (.iload 4, 2) := by decide +kernel
theorem dX11_span_51 : decode cX11_span 51 = .ok (.invokevirtual 354, 3) := by decide +kernel
theorem dX11_span_54 : decode cX11_span 54 = .ok (.istore 5, 2) := by decide +kernel
theorem dX11_span_56 : decode cX11_span 56 = .ok (.iload_n 2, 1) := by decide +kernel
theorem dX11_span_57 : decode cX11_span 57 = .ok (.ifCond .eq 12, 3) := by decide +kernel
theorem dX11_span_60 : decode cX11_span 60 = .ok (.iload_n 3, 1) := by decide +kernel
theorem dX11_span_61 : decode cX11_span 61 = .ok (.iload 5, 2) := by decide +kernel
theorem dX11_span_63 : decode cX11_span 63 = .ok (.invokestatic 360, 3) := by decide +kernel
theorem dX11_span_66 : decode cX11_span 66 = .ok (.goto 9, 3) := by decide +kernel
theorem dX11_span_69 : decode cX11_span 69 = .ok (.iload_n 3, 1) := by decide +kernel
theorem dX11_span_70 : decode cX11_span 70 = .ok (.iload 5, 2) := by decide +kernel
theorem dX11_span_72 : decode cX11_span 72 = .ok (.invokestatic 365, 3) := by decide +kernel
theorem dX11_span_75 : decode cX11_span 75 = .ok (.istore_n 3, 1) := by decide +kernel
theorem dX11_span_76 : decode cX11_span 76 = .ok (.iinc 4 1, 3) := by decide +kernel
theorem dX11_span_79 : decode cX11_span 79 = .ok (.goto (-50), 3) := by decide +kernel
theorem dX11_span_82 : decode cX11_span 82 = .ok (.iload_n 3, 1) := by decide +kernel
theorem dX11_span_83 : decode cX11_span 83 = .ok (.ireturn, 1) := by decide +kernel
theorem dX11_led_0 : decode cX11_led 0 = .ok (.aload_n 0, 1) := by decide +kernel
theorem dX11_led_1 : decode cX11_led 1 = .ok (.iload_n 1, 1) := by decide +kernel
theorem dX11_led_2 : decode cX11_led 2 = .ok (.invokevirtual 187, 3) := by decide +kernel
theorem dX11_led_5 : decode cX11_led 5 = .ok (.iload_n 2, 1) := by decide +kernel
theorem dX11_led_6 : decode cX11_led 6 = .ok (.ifCond .eq 14, 3) := by decide +kernel
theorem dX11_led_9 : decode cX11_led 9 = .ok (.aload_n 0, 1) := by decide +kernel
theorem dX11_led_10 : decode cX11_led 10 = .ok (.getfield 21, 3) := by decide +kernel
theorem dX11_led_13 : decode cX11_led 13 = .ok (.iload_n 1, 1) := by decide +kernel
theorem dX11_led_14 : decode cX11_led 14 = .ok (.invokevirtual 368, 3) := by decide +kernel
theorem dX11_led_17 : decode cX11_led 17 = .ok (.goto 11, 3) := by decide +kernel
theorem dX11_led_20 : decode cX11_led 20 = .ok (.aload_n 0, 1) := by decide +kernel
theorem dX11_led_21 : decode cX11_led 21 = .ok (.getfield 21, 3) := by decide +kernel
theorem dX11_led_24 : decode cX11_led 24 = .ok (.iload_n 1, 1) := by decide +kernel
theorem dX11_led_25 : decode cX11_led 25 = .ok (.invokevirtual 371, 3) := by decide +kernel
theorem dX11_led_28 : decode cX11_led 28 = .ok (.ireturn, 1) := by decide +kernel
theorem dX11_log_0 : decode cX11_log 0 = .ok (.iload_n 2, 1) := by decide +kernel
theorem dX11_log_1 : decode cX11_log 1 = .ok (.ifCond .lt 8, 3) := by decide +kernel
theorem dX11_log_4 : decode cX11_log 4 = .ok (.iload_n 2, 1) := by decide +kernel
theorem dX11_log_5 : decode cX11_log 5 = .ok (.iconst 4, 1) := by decide +kernel
theorem dX11_log_6 : decode cX11_log 6 = .ok (.if_icmp .lt 14, 3) := by decide +kernel
theorem dX11_log_9 : decode cX11_log 9 = .ok (.new 175, 3) := by decide +kernel
theorem dX11_log_12 : decode cX11_log 12 = .ok (.dup, 1) := by decide +kernel
theorem dX11_log_13 : decode cX11_log 13 = .ok (.ldc_w 374, 3) := by decide +kernel
theorem dX11_log_16 : decode cX11_log 16 = .ok (.invokespecial 179, 3) := by decide +kernel
theorem dX11_log_19 : decode cX11_log 19 = .ok (.athrow, 1) := by decide +kernel
theorem dX11_log_20 : decode cX11_log 20 = .ok (.iload_n 1, 1) := by decide +kernel
theorem dX11_log_21 : decode cX11_log 21 = .ok (.ifCond .lt 14, 3) := by decide +kernel
theorem dX11_log_24 : decode cX11_log 24 = .ok (.iload_n 1, 1) := by decide +kernel
theorem dX11_log_25 : decode cX11_log 25 = .ok (.aload_n 0, 1) := by decide +kernel
theorem dX11_log_26 : decode cX11_log 26 = .ok (.getfield 21, 3) := by decide +kernel
theorem dX11_log_29 : decode cX11_log 29 = .ok (.invokevirtual 376, 3) := by decide +kernel
theorem dX11_log_32 : decode cX11_log 32 = .ok (.if_icmp .lt 7, 3) := by decide +kernel
theorem dX11_log_35 : decode cX11_log 35 = .ok (.iconst (-1), 1) := by decide +kernel
theorem dX11_log_36 : decode cX11_log 36 = .ok (.goto 12, 3) := by decide +kernel
theorem dX11_log_39 : decode cX11_log 39 = .ok (.aload_n 0, 1) := by decide +kernel
theorem dX11_log_40 : decode cX11_log 40 = .ok (.getfield 21, 3) := by decide +kernel
theorem dX11_log_43 : decode cX11_log 43 = .ok (.iload_n 1, 1) := by decide +kernel
theorem dX11_log_44 : decode cX11_log 44 = .ok (.iload_n 2, 1) := by decide +kernel
theorem dX11_log_45 : decode cX11_log 45 = .ok (.invokevirtual 379, 3) := by decide +kernel
theorem dX11_log_48 : decode cX11_log 48 = .ok (.ireturn, 1) := by decide +kernel
theorem dX11_seed_0 : decode cX11_seed 0 = .ok (.aload_n 0, 1) := by decide +kernel
theorem dX11_seed_1 : decode cX11_seed 1 = .ok (.getfield 21, 3) := by decide +kernel
theorem dX11_seed_4 : decode cX11_seed 4 = .ok (.getfield 351, 3) := by decide +kernel
theorem dX11_seed_7 : decode cX11_seed 7 = .ok (.istore_n 2, 1) := by decide +kernel
theorem dX11_seed_8 : decode cX11_seed 8 = .ok (.aload_n 0, 1) := by decide +kernel
theorem dX11_seed_9 : decode cX11_seed 9 = .ok (.getfield 21, 3) := by decide +kernel
theorem dX11_seed_12 : decode cX11_seed 12 = .ok (.iload_n 1, 1) := by decide +kernel
theorem dX11_seed_13 : decode cX11_seed 13 = .ok (.putfield 351, 3) := by decide +kernel
theorem dX11_seed_16 : decode cX11_seed 16 = .ok (.iload_n 2, 1) := by decide +kernel
theorem dX11_seed_17 : decode cX11_seed 17 = .ok (.ireturn, 1) := by decide +kernel
theorem dX11_undo_0 : decode cX11_undo 0 = .ok (.aload_n 0, 1) := by decide +kernel
theorem dX11_undo_1 : decode cX11_undo 1 = .ok (.getfield 382, 3) := by decide +kernel
theorem dX11_undo_4 : decode cX11_undo 4 = .ok (.ifCond .ne 5, 3) := by decide +kernel
theorem dX11_undo_7 : decode cX11_undo 7 = .ok (.iconst 0, 1) := by decide +kernel
theorem dX11_undo_8 : decode cX11_undo 8 = .ok (.ireturn, 1) := by decide +kernel
theorem dX11_undo_9 : decode cX11_undo 9 = .ok (.aload_n 0, 1) := by decide +kernel
theorem dX11_undo_10 : decode cX11_undo 10 = .ok (.dup, 1) := by decide +kernel
theorem dX11_undo_11 : decode cX11_undo 11 = .ok (.getfield 382, 3) := by decide +kernel
theorem dX11_undo_14 : decode cX11_undo 14 = .ok (.iconst 1, 1) := by decide +kernel
theorem dX11_undo_15 : decode cX11_undo 15 = .ok (.isub, 1) := by decide +kernel
theorem dX11_undo_16 : decode cX11_undo 16 = .ok (.putfield 382, 3) := by decide +kernel
theorem dX11_undo_19 : decode cX11_undo 19 = .ok (.aload_n 0, 1) := by decide +kernel
theorem dX11_undo_20 : decode cX11_undo 20 = .ok (.aload_n 0, 1) := by decide +kernel
theorem dX11_undo_21 : decode cX11_undo 21 = .ok (.getfield 385, 3) := by decide +kernel
theorem dX11_undo_24 : decode cX11_undo 24 = .ok (.aload_n 0, 1) := by decide +kernel
theorem dX11_undo_25 : decode cX11_undo 25 = .ok (.getfield 382, 3) := by decide +kernel
theorem dX11_undo_28 : decode cX11_undo 28 = .ok (.iadd, 1) := by decide +kernel
theorem dX11_undo_29 : decode cX11_undo 29 = .ok (.invokevirtual 388, 3) := by decide +kernel
theorem dX11_undo_32 : decode cX11_undo 32 = .ok (.astore_n 1, 1) := by decide +kernel
theorem dX11_undo_33 : decode cX11_undo 33 = .ok (.aload_n 1, 1) := by decide +kernel
theorem dX11_undo_34 : decode cX11_undo 34 = .ok (.ifnull 11, 3) := by decide +kernel
theorem dX11_undo_37 : decode cX11_undo 37 = .ok (.aload_n 0, 1) := by decide +kernel
theorem dX11_undo_38 : decode cX11_undo 38 = .ok (.getfield 21, 3) := by decide +kernel
theorem dX11_undo_41 : decode cX11_undo 41 = .ok (.aload_n 1, 1) := by decide +kernel
theorem dX11_undo_42 : decode cX11_undo 42 = .ok (.invokevirtual 101, 3) := by decide +kernel
theorem dX11_undo_45 : decode cX11_undo 45 = .ok (.iconst 1, 1) := by decide +kernel
theorem dX11_undo_46 : decode cX11_undo 46 = .ok (.ireturn, 1) := by decide +kernel
theorem dX11_remember_0 : decode cX11_remember 0 = .ok (.aload_n 0, 1) := by decide +kernel
theorem dX11_remember_1 : decode cX11_remember 1 = .ok (.aload_n 0, 1) := by decide +kernel
theorem dX11_remember_2 : decode cX11_remember 2 = .ok (.getfield 385, 3) := by decide +kernel
theorem dX11_remember_5 : decode cX11_remember 5 = .ok (.aload_n 0, 1) := by decide +kernel
theorem dX11_remember_6 : decode cX11_remember 6 = .ok (.getfield 382, 3) := by decide +kernel
theorem dX11_remember_9 : decode cX11_remember 9 = .ok (.iadd, 1) := by decide +kernel
theorem dX11_remember_10 : decode cX11_remember 10 = .ok (.invokevirtual 388, 3) := by decide +kernel
theorem dX11_remember_13 : decode cX11_remember 13 = .ok (.astore_n 1, 1) := by decide +kernel
theorem dX11_remember_14 : decode cX11_remember 14 = .ok (.aload_n 1, 1) := by decide +kernel
theorem dX11_remember_15 : decode cX11_remember 15 = .ok (.ifnull 11, 3) := by decide +kernel
theorem dX11_remember_18 : decode cX11_remember 18 = .ok (.aload_n 1, 1) := by decide +kernel
theorem dX11_remember_19 : decode cX11_remember 19 = .ok (.aload_n 0, 1) := by decide +kernel
theorem dX11_remember_20 : decode cX11_remember 20 = .ok (.getfield 21, 3) := by decide +kernel
theorem dX11_remember_23 : decode cX11_remember 23 = .ok (.invokevirtual 101, 3) := by decide +kernel
theorem dX11_remember_26 : decode cX11_remember 26 = .ok (.aload_n 0, 1) := by decide +kernel
theorem dX11_remember_27 : decode cX11_remember 27 = .ok (.getfield 382, 3) := by decide +kernel
theorem dX11_remember_30 : decode cX11_remember 30 = .ok (.bipush 12, 2) := by decide +kernel
theorem dX11_remember_32 : decode cX11_remember 32 = .ok (.if_icmp .ge 16, 3) := by decide +kernel
theorem dX11_remember_35 : decode cX11_remember 35 = .ok (.aload_n 0, 1) := by decide +kernel
theorem dX11_remember_36 : decode cX11_remember 36 = .ok (.dup, 1) := by decide +kernel
theorem dX11_remember_37 : decode cX11_remember 37 = .ok (.getfield 382, 3) := by decide +kernel
theorem dX11_remember_40 : decode cX11_remember 40 = .ok (.iconst 1, 1) := by decide +kernel
theorem dX11_remember_41 : decode cX11_remember 41 = .ok (.iadd, 1) := by decide +kernel
theorem dX11_remember_42 : decode cX11_remember 42 = .ok (.putfield 382, 3) := by decide +kernel
theorem dX11_remember_45 : decode cX11_remember 45 = .ok (.goto 16, 3) := by decide +kernel
theorem dX11_remember_48 : decode cX11_remember 48 = .ok (.aload_n 0, 1) := by decide +kernel
theorem dX11_remember_49 : decode cX11_remember 49 = .ok (.aload_n 0, 1) := by decide +kernel
theorem dX11_remember_50 : decode cX11_remember 50 = .ok (.getfield 385, 3) := by decide +kernel
theorem dX11_remember_53 : decode cX11_remember 53 = .ok (.iconst 1, 1) := by decide +kernel
theorem dX11_remember_54 : decode cX11_remember 54 = .ok (.iadd, 1) := by decide +kernel
theorem dX11_remember_55 : decode cX11_remember 55 = .ok (.bipush 12, 2) := by decide +kernel
theorem dX11_remember_57 : decode cX11_remember 57 = .ok (.irem, 1) := by decide +kernel
theorem dX11_remember_58 : decode cX11_remember 58 = .ok (.putfield 385, 3) := by decide +kernel
theorem dX11_remember_61 : decode cX11_remember 61 = .ok (.return_, 1) := by decide +kernel
theorem dX11_rememberedTown_0 : decode cX11_rememberedTown 0 = .ok (.iload_n 1, 1) := by decide +kernel
theorem dX11_rememberedTown_1 : decode cX11_rememberedTown 1 = .ok (.bipush 12, 2) := by decide +kernel
theorem dX11_rememberedTown_3 : decode cX11_rememberedTown 3 = .ok (.irem, 1) := by decide +kernel
theorem dX11_rememberedTown_4 : decode cX11_rememberedTown 4 = .ok (.istore_n 2, 1) := by decide +kernel
theorem dX11_rememberedTown_5 : decode cX11_rememberedTown 5 = .ok (.iload_n 2, 1) := by decide +kernel
theorem dX11_rememberedTown_6 : decode cX11_rememberedTown 6 = .ok (.ifCond .lt 21, 3) := by decide +kernel
theorem dX11_rememberedTown_9 : decode cX11_rememberedTown 9 = .ok (.iload_n 2, 1) := by decide +kernel
theorem dX11_rememberedTown_10 : decode cX11_rememberedTown 10 = .ok (.aload_n 0, 1) := by decide +kernel
theorem dX11_rememberedTown_11 : decode cX11_rememberedTown 11 = .ok (.getfield 38, 3) := by decide +kernel
theorem dX11_rememberedTown_14 : decode cX11_rememberedTown 14 = .ok (.arraylength, 1) := by decide +kernel
theorem dX11_rememberedTown_15 : decode cX11_rememberedTown 15 = .ok (.if_icmp .ge 12, 3) := by decide +kernel
theorem dX11_rememberedTown_18 : decode cX11_rememberedTown 18 = .ok (.aload_n 0, 1) := by decide +kernel
theorem dX11_rememberedTown_19 : decode cX11_rememberedTown 19 = .ok (.getfield 38, 3) := by decide +kernel
theorem dX11_rememberedTown_22 : decode cX11_rememberedTown 22 = .ok (.iload_n 2, 1) := by decide +kernel
theorem dX11_rememberedTown_23 : decode cX11_rememberedTown 23 = .ok (.aaload, 1) := by decide +kernel
theorem dX11_rememberedTown_24 : decode cX11_rememberedTown 24 = .ok (.goto 4, 3) := by decide +kernel
theorem dX11_rememberedTown_27 : decode cX11_rememberedTown 27 = .ok (.aconst_null, 1) := by decide +kernel
theorem dX11_rememberedTown_28 : decode cX11_rememberedTown 28 = .ok (.areturn, 1) := by decide +kernel
theorem dX11_forgetActs_0 : decode cX11_forgetActs 0 = .ok (.aload_n 0, 1) := by decide +kernel
theorem dX11_forgetActs_1 : decode cX11_forgetActs 1 = .ok (.iconst 0, 1) := by decide +kernel
theorem dX11_forgetActs_2 : decode cX11_forgetActs 2 = .ok (.putfield 382, 3) := by decide +kernel
theorem dX11_forgetActs_5 : decode cX11_forgetActs 5 = .ok (.return_, 1) := by decide +kernel
theorem dX11_image_0 : decode cX11_image 0 = .ok (.aload_n 0, 1) := by decide +kernel
theorem dX11_image_1 : decode cX11_image 1 = .ok (.getfield 32, 3) := by decide +kernel
theorem dX11_image_4 : decode cX11_image 4 = .ok (.aload_n 0, 1) := by decide +kernel
theorem dX11_image_5 : decode cX11_image 5 = .ok (.getfield 21, 3) := by decide +kernel
theorem dX11_image_8 : decode cX11_image 8 = .ok (.invokevirtual 101, 3) := by decide +kernel
theorem dX11_image_11 : decode cX11_image 11 = .ok (.aload_n 0, 1) := by decide +kernel
theorem dX11_image_12 : decode cX11_image 12 = .ok (.getfield 35, 3) := by decide +kernel
theorem dX11_image_15 : decode cX11_image 15 = .ok (.aload_n 0, 1) := by decide +kernel
theorem dX11_image_16 : decode cX11_image 16 = .ok (.getfield 28, 3) := by decide +kernel
theorem dX11_image_19 : decode cX11_image 19 = .ok (.invokevirtual 143, 3) := by decide +kernel
theorem dX11_image_22 : decode cX11_image 22 = .ok (.aload_n 0, 1) := by decide +kernel
theorem dX11_image_23 : decode cX11_image 23 = .ok (.iconst 1, 1) := by decide +kernel
theorem dX11_image_24 : decode cX11_image 24 = .ok (.putfield 392, 3) := by decide +kernel
theorem dX11_image_27 : decode cX11_image 27 = .ok (.return_, 1) := by decide +kernel
theorem dX11_back_0 : decode cX11_back 0 = .ok (.aload_n 0, 1) := by decide +kernel
theorem dX11_back_1 : decode cX11_back 1 = .ok (.getfield 392, 3) := by decide +kernel
theorem dX11_back_4 : decode cX11_back 4 = .ok (.ifCond .ne 5, 3) := by decide +kernel
theorem dX11_back_7 : decode cX11_back 7 = .ok (.iconst 0, 1) := by decide +kernel
theorem dX11_back_8 : decode cX11_back 8 = .ok (.ireturn, 1) := by decide +kernel
theorem dX11_back_9 : decode cX11_back 9 = .ok (.aload_n 0, 1) := by decide +kernel
theorem dX11_back_10 : decode cX11_back 10 = .ok (.getfield 21, 3) := by decide +kernel
theorem dX11_back_13 : decode cX11_back 13 = .ok (.aload_n 0, 1) := by decide +kernel
theorem dX11_back_14 : decode cX11_back 14 = .ok (.getfield 32, 3) := by decide +kernel
theorem dX11_back_17 : decode cX11_back 17 = .ok (.invokevirtual 101, 3) := by decide +kernel
theorem dX11_back_20 : decode cX11_back 20 = .ok (.aload_n 0, 1) := by decide +kernel
theorem dX11_back_21 : decode cX11_back 21 = .ok (.getfield 28, 3) := by decide +kernel
theorem dX11_back_24 : decode cX11_back 24 = .ok (.aload_n 0, 1) := by decide +kernel
theorem dX11_back_25 : decode cX11_back 25 = .ok (.getfield 35, 3) := by decide +kernel
theorem dX11_back_28 : decode cX11_back 28 = .ok (.invokevirtual 143, 3) := by decide +kernel
theorem dX11_back_31 : decode cX11_back 31 = .ok (.aload_n 0, 1) := by decide +kernel
theorem dX11_back_32 : decode cX11_back 32 = .ok (.invokevirtual 131, 3) := by decide +kernel
theorem dX11_back_35 : decode cX11_back 35 = .ok (.iconst 1, 1) := by decide +kernel
theorem dX11_back_36 : decode cX11_back 36 = .ok (.ireturn, 1) := by decide +kernel
theorem dX11_count_0 : decode cX11_count 0 = .ok (.iload_n 1, 1) := by decide +kernel
theorem dX11_count_1 : decode cX11_count 1 = .ok (.tableswitch 192 0 14 #[75, 83, 91, 99, 107, 115, 123, 131, 139, 147, 155, 163, 171, 179, 187], 75) := by decide +kernel
theorem dX11_count_76 : decode cX11_count 76 = .ok (.aload_n 0, 1) := by decide +kernel
theorem dX11_count_77 : decode cX11_count 77 = .ok (.getfield 21, 3) := by decide +kernel
theorem dX11_count_80 : decode cX11_count 80 = .ok (.getfield 339, 3) := by decide +kernel
theorem dX11_count_83 : decode cX11_count 83 = .ok (.ireturn, 1) := by decide +kernel
theorem dX11_count_84 : decode cX11_count 84 = .ok (.aload_n 0, 1) := by decide +kernel
theorem dX11_count_85 : decode cX11_count 85 = .ok (.getfield 21, 3) := by decide +kernel
theorem dX11_count_88 : decode cX11_count 88 = .ok (.getfield 229, 3) := by decide +kernel
theorem dX11_count_91 : decode cX11_count 91 = .ok (.ireturn, 1) := by decide +kernel
theorem dX11_count_92 : decode cX11_count 92 = .ok (.aload_n 0, 1) := by decide +kernel
theorem dX11_count_93 : decode cX11_count 93 = .ok (.getfield 21, 3) := by decide +kernel
theorem dX11_count_96 : decode cX11_count 96 = .ok (.getfield 123, 3) := by decide +kernel
theorem dX11_count_99 : decode cX11_count 99 = .ok (.ireturn, 1) := by decide +kernel
theorem dX11_count_100 : decode cX11_count 100 = .ok (.aload_n 0, 1) := by decide +kernel
theorem dX11_count_101 : decode cX11_count 101 = .ok (.getfield 28, 3) := by decide +kernel
theorem dX11_count_104 : decode cX11_count 104 = .ok (.getfield 396, 3) := by decide +kernel
theorem dX11_count_107 : decode cX11_count 107 = .ok (.ireturn, 1) := by decide +kernel
theorem dX11_count_108 : decode cX11_count 108 = .ok (.aload_n 0, 1) := by decide +kernel
theorem dX11_count_109 : decode cX11_count 109 = .ok (.getfield 21, 3) := by decide +kernel
theorem dX11_count_112 : decode cX11_count 112 = .ok (.getfield 399, 3) := by decide +kernel
theorem dX11_count_115 : decode cX11_count 115 = .ok (.ireturn, 1) := by decide +kernel
theorem dX11_count_116 : decode cX11_count 116 = .ok (.aload_n 0, 1) := by decide +kernel
theorem dX11_count_117 : decode cX11_count 117 = .ok (.getfield 21, 3) := by decide +kernel
theorem dX11_count_120 : decode cX11_count 120 = .ok (.getfield 402, 3) := by decide +kernel
theorem dX11_count_123 : decode cX11_count 123 = .ok (.ireturn, 1) := by decide +kernel
theorem dX11_count_124 : decode cX11_count 124 = .ok (.aload_n 0, 1) := by decide +kernel
theorem dX11_count_125 : decode cX11_count 125 = .ok (.getfield 21, 3) := by decide +kernel
theorem dX11_count_128 : decode cX11_count 128 = .ok (.getfield 405, 3) := by decide +kernel
theorem dX11_count_131 : decode cX11_count 131 = .ok (.ireturn, 1) := by decide +kernel
theorem dX11_count_132 : decode cX11_count 132 = .ok (.aload_n 0, 1) := by decide +kernel
theorem dX11_count_133 : decode cX11_count 133 = .ok (.getfield 21, 3) := by decide +kernel
theorem dX11_count_136 : decode cX11_count 136 = .ok (.getfield 408, 3) := by decide +kernel
theorem dX11_count_139 : decode cX11_count 139 = .ok (.ireturn, 1) := by decide +kernel
theorem dX11_count_140 : decode cX11_count 140 = .ok (.aload_n 0, 1) := by decide +kernel
theorem dX11_count_141 : decode cX11_count 141 = .ok (.getfield 21, 3) := by decide +kernel
theorem dX11_count_144 : decode cX11_count 144 = .ok (.getfield 411, 3) := by decide +kernel
theorem dX11_count_147 : decode cX11_count 147 = .ok (.ireturn, 1) := by decide +kernel
theorem dX11_count_148 : decode cX11_count 148 = .ok (.aload_n 0, 1) := by decide +kernel
theorem dX11_count_149 : decode cX11_count 149 = .ok (.getfield 21, 3) := by decide +kernel
theorem dX11_count_152 : decode cX11_count 152 = .ok (.invokevirtual 414, 3) := by decide +kernel
theorem dX11_count_155 : decode cX11_count 155 = .ok (.ireturn, 1) := by decide +kernel
theorem dX11_count_156 : decode cX11_count 156 = .ok (.aload_n 0, 1) := by decide +kernel
theorem dX11_count_157 : decode cX11_count 157 = .ok (.getfield 21, 3) := by decide +kernel
theorem dX11_count_160 : decode cX11_count 160 = .ok (.getfield 417, 3) := by decide +kernel
theorem dX11_count_163 : decode cX11_count 163 = .ok (.ireturn, 1) := by decide +kernel
theorem dX11_count_164 : decode cX11_count 164 = .ok (.aload_n 0, 1) := by decide +kernel
theorem dX11_count_165 : decode cX11_count 165 = .ok (.getfield 21, 3) := by decide +kernel
theorem dX11_count_168 : decode cX11_count 168 = .ok (.invokevirtual 420, 3) := by decide +kernel
theorem dX11_count_171 : decode cX11_count 171 = .ok (.ireturn, 1) := by decide +kernel
theorem dX11_count_172 : decode cX11_count 172 = .ok (.aload_n 0, 1) := by decide +kernel
theorem dX11_count_173 : decode cX11_count 173 = .ok (.getfield 21, 3) := by decide +kernel
theorem dX11_count_176 : decode cX11_count 176 = .ok (.getfield 256, 3) := by decide +kernel
theorem dX11_count_179 : decode cX11_count 179 = .ok (.ireturn, 1) := by decide +kernel
theorem dX11_count_180 : decode cX11_count 180 = .ok (.aload_n 0, 1) := by decide +kernel
theorem dX11_count_181 : decode cX11_count 181 = .ok (.getfield 21, 3) := by decide +kernel
theorem dX11_count_184 : decode cX11_count 184 = .ok (.invokevirtual 376, 3) := by decide +kernel
theorem dX11_count_187 : decode cX11_count 187 = .ok (.ireturn, 1) := by decide +kernel
theorem dX11_count_188 : decode cX11_count 188 = .ok (.aload_n 0, 1) := by decide +kernel
theorem dX11_count_189 : decode cX11_count 189 = .ok (.getfield 382, 3) := by decide +kernel
theorem dX11_count_192 : decode cX11_count 192 = .ok (.ireturn, 1) := by decide +kernel
theorem dX11_count_193 : decode cX11_count 193 = .ok (.iconst (-1), 1) := by decide +kernel
theorem dX11_count_194 : decode cX11_count 194 = .ok (.ireturn, 1) := by decide +kernel
theorem dX11_checkPerson_0 : decode cX11_checkPerson 0 = .ok (.aload_n 0, 1) := by decide +kernel
theorem dX11_checkPerson_1 : decode cX11_checkPerson 1 = .ok (.getfield 21, 3) := by decide +kernel
theorem dX11_checkPerson_4 : decode cX11_checkPerson 4 = .ok (.iload_n 1, 1) := by decide +kernel
theorem dX11_checkPerson_5 : decode cX11_checkPerson 5 = .ok (.invokevirtual 423, 3) := by decide +kernel
theorem dX11_checkPerson_8 : decode cX11_checkPerson 8 = .ok (.ifCond .ne 14, 3) := by decide +kernel
theorem dX11_checkPerson_11 : decode cX11_checkPerson 11 = .ok (.new 426, 3) := by decide +kernel
theorem dX11_checkPerson_14 : decode cX11_checkPerson 14 = .ok (.dup, 1) := by decide +kernel
theorem dX11_checkPerson_15 : decode cX11_checkPerson 15 = .ok (.ldc_w 428, 3) := by decide +kernel
theorem dX11_checkPerson_18 : decode cX11_checkPerson 18 = .ok (.invokespecial 430, 3) := by decide +kernel
theorem dX11_checkPerson_21 : decode cX11_checkPerson 21 = .ok (.athrow, 1) := by decide +kernel
theorem dX11_checkPerson_22 : decode cX11_checkPerson 22 = .ok (.return_, 1) := by decide +kernel
theorem dX11_checkTwo_0 : decode cX11_checkTwo 0 = .ok (.aload_n 0, 1) := by decide +kernel
theorem dX11_checkTwo_1 : decode cX11_checkTwo 1 = .ok (.iload_n 1, 1) := by decide +kernel
theorem dX11_checkTwo_2 : decode cX11_checkTwo 2 = .ok (.invokevirtual 146, 3) := by decide +kernel
theorem dX11_checkTwo_5 : decode cX11_checkTwo 5 = .ok (.aload_n 0, 1) := by decide +kernel
theorem dX11_checkTwo_6 : decode cX11_checkTwo 6 = .ok (.iload_n 2, 1) := by decide +kernel
theorem dX11_checkTwo_7 : decode cX11_checkTwo 7 = .ok (.invokevirtual 146, 3) := by decide +kernel
theorem dX11_checkTwo_10 : decode cX11_checkTwo 10 = .ok (.iload_n 1, 1) := by decide +kernel
theorem dX11_checkTwo_11 : decode cX11_checkTwo 11 = .ok (.iload_n 2, 1) := by decide +kernel
theorem dX11_checkTwo_12 : decode cX11_checkTwo 12 = .ok (.if_icmp .ne 14, 3) := by decide +kernel
theorem dX11_checkTwo_15 : decode cX11_checkTwo 15 = .ok (.new 116, 3) := by decide +kernel
theorem dX11_checkTwo_18 : decode cX11_checkTwo 18 = .ok (.dup, 1) := by decide +kernel
theorem dX11_checkTwo_19 : decode cX11_checkTwo 19 = .ok (.ldc_w 431, 3) := by decide +kernel
theorem dX11_checkTwo_22 : decode cX11_checkTwo 22 = .ok (.invokespecial 120, 3) := by decide +kernel
theorem dX11_checkTwo_25 : decode cX11_checkTwo 25 = .ok (.athrow, 1) := by decide +kernel
theorem dX11_checkTwo_26 : decode cX11_checkTwo 26 = .ok (.return_, 1) := by decide +kernel
theorem dX11_checkMatch_0 : decode cX11_checkMatch 0 = .ok (.iload_n 1, 1) := by decide +kernel
theorem dX11_checkMatch_1 : decode cX11_checkMatch 1 = .ok (.ifCond .lt 14, 3) := by decide +kernel
theorem dX11_checkMatch_4 : decode cX11_checkMatch 4 = .ok (.iload_n 1, 1) := by decide +kernel
theorem dX11_checkMatch_5 : decode cX11_checkMatch 5 = .ok (.aload_n 0, 1) := by decide +kernel
theorem dX11_checkMatch_6 : decode cX11_checkMatch 6 = .ok (.getfield 21, 3) := by decide +kernel
theorem dX11_checkMatch_9 : decode cX11_checkMatch 9 = .ok (.getfield 229, 3) := by decide +kernel
theorem dX11_checkMatch_12 : decode cX11_checkMatch 12 = .ok (.if_icmp .lt 14, 3) := by decide +kernel
theorem dX11_checkMatch_15 : decode cX11_checkMatch 15 = .ok (.new 426, 3) := by decide +kernel
theorem dX11_checkMatch_18 : decode cX11_checkMatch 18 = .ok (.dup, 1) := by decide +kernel
theorem dX11_checkMatch_19 : decode cX11_checkMatch 19 = .ok (.ldc_w 433, 3) := by decide +kernel
theorem dX11_checkMatch_22 : decode cX11_checkMatch 22 = .ok (.invokespecial 430, 3) := by decide +kernel
theorem dX11_checkMatch_25 : decode cX11_checkMatch 25 = .ok (.athrow, 1) := by decide +kernel
theorem dX11_checkMatch_26 : decode cX11_checkMatch 26 = .ok (.return_, 1) := by decide +kernel
theorem dX11_checkGoesOn_0 : decode cX11_checkGoesOn 0 = .ok (.aload_n 0, 1) := by decide +kernel
theorem dX11_checkGoesOn_1 : decode cX11_checkGoesOn 1 = .ok (.getfield 21, 3) := by decide +kernel
theorem dX11_checkGoesOn_4 : decode cX11_checkGoesOn 4 = .ok (.iload_n 1, 1) := by decide +kernel
theorem dX11_checkGoesOn_5 : decode cX11_checkGoesOn 5 = .ok (.invokevirtual 202, 3) := by decide +kernel
theorem dX11_checkGoesOn_8 : decode cX11_checkGoesOn 8 = .ok (.ifCond .eq 14, 3) := by decide +kernel
theorem dX11_checkGoesOn_11 : decode cX11_checkGoesOn 11 = .ok (.new 224, 3) := by decide +kernel
theorem dX11_checkGoesOn_14 : decode cX11_checkGoesOn 14 = .ok (.dup, 1) := by decide +kernel
theorem dX11_checkGoesOn_15 : decode cX11_checkGoesOn 15 = .ok (.ldc_w 435, 3) := by decide +kernel
theorem dX11_checkGoesOn_18 : decode cX11_checkGoesOn 18 = .ok (.invokespecial 228, 3) := by decide +kernel
theorem dX11_checkGoesOn_21 : decode cX11_checkGoesOn 21 = .ok (.athrow, 1) := by decide +kernel
theorem dX11_checkGoesOn_22 : decode cX11_checkGoesOn 22 = .ok (.return_, 1) := by decide +kernel
theorem dX11_checkInsurer_0 : decode cX11_checkInsurer 0 = .ok (.aload_n 0, 1) := by decide +kernel
theorem dX11_checkInsurer_1 : decode cX11_checkInsurer 1 = .ok (.iload_n 1, 1) := by decide +kernel
theorem dX11_checkInsurer_2 : decode cX11_checkInsurer 2 = .ok (.invokevirtual 146, 3) := by decide +kernel
theorem dX11_checkInsurer_5 : decode cX11_checkInsurer 5 = .ok (.aload_n 0, 1) := by decide +kernel
theorem dX11_checkInsurer_6 : decode cX11_checkInsurer 6 = .ok (.iload_n 2, 1) := by decide +kernel
theorem dX11_checkInsurer_7 : decode cX11_checkInsurer 7 = .ok (.invokevirtual 187, 3) := by decide +kernel
theorem dX11_checkInsurer_10 : decode cX11_checkInsurer 10 = .ok (.aload_n 0, 1) := by decide +kernel
theorem dX11_checkInsurer_11 : decode cX11_checkInsurer 11 = .ok (.iload_n 2, 1) := by decide +kernel
theorem dX11_checkInsurer_12 : decode cX11_checkInsurer 12 = .ok (.invokevirtual 246, 3) := by decide +kernel
theorem dX11_checkInsurer_15 : decode cX11_checkInsurer 15 = .ok (.aload_n 0, 1) := by decide +kernel
theorem dX11_checkInsurer_16 : decode cX11_checkInsurer 16 = .ok (.getfield 21, 3) := by decide +kernel
theorem dX11_checkInsurer_19 : decode cX11_checkInsurer 19 = .ok (.iload_n 2, 1) := by decide +kernel
theorem dX11_checkInsurer_20 : decode cX11_checkInsurer 20 = .ok (.invokevirtual 205, 3) := by decide +kernel
theorem dX11_checkInsurer_23 : decode cX11_checkInsurer 23 = .ok (.iload_n 1, 1) := by decide +kernel
theorem dX11_checkInsurer_24 : decode cX11_checkInsurer 24 = .ok (.invokestatic 437, 3) := by decide +kernel
theorem dX11_checkInsurer_27 : decode cX11_checkInsurer 27 = .ok (.ifCond .ne 14, 3) := by decide +kernel
theorem dX11_checkInsurer_30 : decode cX11_checkInsurer 30 = .ok (.new 224, 3) := by decide +kernel
theorem dX11_checkInsurer_33 : decode cX11_checkInsurer 33 = .ok (.dup, 1) := by decide +kernel
theorem dX11_checkInsurer_34 : decode cX11_checkInsurer 34 = .ok (.ldc_w 440, 3) := by decide +kernel
theorem dX11_checkInsurer_37 : decode cX11_checkInsurer 37 = .ok (.invokespecial 228, 3) := by decide +kernel
theorem dX11_checkInsurer_40 : decode cX11_checkInsurer 40 = .ok (.athrow, 1) := by decide +kernel
theorem dX11_checkInsurer_41 : decode cX11_checkInsurer 41 = .ok (.return_, 1) := by decide +kernel
theorem dX11_checkNumber_0 : decode cX11_checkNumber 0 = .ok (.iload_n 1, 1) := by decide +kernel
theorem dX11_checkNumber_1 : decode cX11_checkNumber 1 = .ok (.iload_n 2, 1) := by decide +kernel
theorem dX11_checkNumber_2 : decode cX11_checkNumber 2 = .ok (.if_icmp .lt 8, 3) := by decide +kernel
theorem dX11_checkNumber_5 : decode cX11_checkNumber 5 = .ok (.iload_n 1, 1) := by decide +kernel
theorem dX11_checkNumber_6 : decode cX11_checkNumber 6 = .ok (.iload_n 3, 1) := by decide +kernel
theorem dX11_checkNumber_7 : decode cX11_checkNumber 7 = .ok (.if_icmp .le 14, 3) := by decide +kernel
theorem dX11_checkNumber_10 : decode cX11_checkNumber 10 = .ok (.new 116, 3) := by decide +kernel
theorem dX11_checkNumber_13 : decode cX11_checkNumber 13 = .ok (.dup, 1) := by decide +kernel
theorem dX11_checkNumber_14 : decode cX11_checkNumber 14 = .ok (.ldc_w 442, 3) := by decide +kernel
theorem dX11_checkNumber_17 : decode cX11_checkNumber 17 = .ok (.invokespecial 120, 3) := by decide +kernel
theorem dX11_checkNumber_20 : decode cX11_checkNumber 20 = .ok (.athrow, 1) := by decide +kernel
theorem dX11_checkNumber_21 : decode cX11_checkNumber 21 = .ok (.return_, 1) := by decide +kernel
theorem dX11_checkQuarrel_0 : decode cX11_checkQuarrel 0 = .ok (.aload_n 0, 1) := by decide +kernel
theorem dX11_checkQuarrel_1 : decode cX11_checkQuarrel 1 = .ok (.iload_n 1, 1) := by decide +kernel
theorem dX11_checkQuarrel_2 : decode cX11_checkQuarrel 2 = .ok (.iconst 0, 1) := by decide +kernel
theorem dX11_checkQuarrel_3 : decode cX11_checkQuarrel 3 = .ok (.bipush 9, 2) := by decide +kernel
theorem dX11_checkQuarrel_5 : decode cX11_checkQuarrel 5 = .ok (.invokevirtual 252, 3) := by decide +kernel
theorem dX11_checkQuarrel_8 : decode cX11_checkQuarrel 8 = .ok (.return_, 1) := by decide +kernel
theorem dX11_contains_0 : decode cX11_contains 0 = .ok (.iload_n 0, 1) := by decide +kernel
theorem dX11_contains_1 : decode cX11_contains 1 = .ok (.iload_n 1, 1) := by decide +kernel
theorem dX11_contains_2 : decode cX11_contains 2 = .ok (.ishr, 1) := by decide +kernel
theorem dX11_contains_3 : decode cX11_contains 3 = .ok (.iconst 1, 1) := by decide +kernel
theorem dX11_contains_4 : decode cX11_contains 4 = .ok (.iand, 1) := by decide +kernel
theorem dX11_contains_5 : decode cX11_contains 5 = .ok (.ifCond .eq 7, 3) := by decide +kernel
theorem dX11_contains_8 : decode cX11_contains 8 = .ok (.iconst 1, 1) := by decide +kernel
theorem dX11_contains_9 : decode cX11_contains 9 = .ok (.goto 4, 3) := by decide +kernel
theorem dX11_contains_12 : decode cX11_contains 12 = .ok (.iconst 0, 1) := by decide +kernel
theorem dX11_contains_13 : decode cX11_contains 13 = .ok (.ireturn, 1) := by decide +kernel
theorem dX11_happyWithin_0 : decode cX11_happyWithin 0 = .ok (.iconst 0, 1) := by decide +kernel
theorem dX11_happyWithin_1 : decode cX11_happyWithin 1 = .ok (.bipush 99, 2) := by decide +kernel
theorem dX11_happyWithin_3 : decode cX11_happyWithin 3 = .ok (.iload_n 0, 1) := by decide +kernel
theorem dX11_happyWithin_4 : decode cX11_happyWithin 4 = .ok (.invokestatic 365, 3) := by decide +kernel
theorem dX11_happyWithin_7 : decode cX11_happyWithin 7 = .ok (.invokestatic 360, 3) := by decide +kernel
theorem dX11_happyWithin_10 : decode cX11_happyWithin 10 = .ok (.ireturn, 1) := by decide +kernel
theorem dX12_init_0 : decode cX12_init 0 = .ok (.aload_n 0, 1) := by decide +kernel
theorem dX12_init_1 : decode cX12_init 1 = .ok (.invokespecial 1, 3) := by decide +kernel
theorem dX12_init_4 : decode cX12_init 4 = .ok (.aload_n 0, 1) := by decide +kernel
theorem dX12_init_5 : decode cX12_init 5 = .ok (.sipush 850, 3) := by decide +kernel
theorem dX12_init_8 : decode cX12_init 8 = .ok (.newarray .int, 2) := by decide +kernel
theorem dX12_init_10 : decode cX12_init 10 = .ok (.putfield 7, 3) := by decide +kernel
theorem dX12_init_13 : decode cX12_init 13 = .ok (.aload_n 0, 1) := by decide +kernel
theorem dX12_init_14 : decode cX12_init 14 = .ok (.sipush 850, 3) := by decide +kernel
theorem dX12_init_17 : decode cX12_init 17 = .ok (.newarray .int, 2) := by decide +kernel
theorem dX12_init_19 : decode cX12_init 19 = .ok (.putfield 13, 3) := by decide +kernel
theorem dX12_init_22 : decode cX12_init 22 = .ok (.aload_n 0, 1) := by decide +kernel
theorem dX12_init_23 : decode cX12_init 23 = .ok (.sipush 450, 3) := by decide +kernel
theorem dX12_init_26 : decode cX12_init 26 = .ok (.newarray .int, 2) := by decide +kernel
theorem dX12_init_28 : decode cX12_init 28 = .ok (.putfield 16, 3) := by decide +kernel
theorem dX12_init_31 : decode cX12_init 31 = .ok (.aload_n 0, 1) := by decide +kernel
theorem dX12_init_32 : decode cX12_init 32 = .ok (.sipush 5400, 3) := by decide +kernel
theorem dX12_init_35 : decode cX12_init 35 = .ok (.newarray .int, 2) := by decide +kernel
theorem dX12_init_37 : decode cX12_init 37 = .ok (.putfield 19, 3) := by decide +kernel
theorem dX12_init_40 : decode cX12_init 40 = .ok (.aload_n 0, 1) := by decide +kernel
theorem dX12_init_41 : decode cX12_init 41 = .ok (.sipush 400, 3) := by decide +kernel
theorem dX12_init_44 : decode cX12_init 44 = .ok (.newarray .int, 2) := by decide +kernel
theorem dX12_init_46 : decode cX12_init 46 = .ok (.putfield 22, 3) := by decide +kernel
theorem dX12_init_49 : decode cX12_init 49 = .ok (.aload_n 0, 1) := by decide +kernel
theorem dX12_init_50 : decode cX12_init 50 = .ok (.iconst (-1), 1) := by decide +kernel
theorem dX12_init_51 : decode cX12_init 51 = .ok (.putfield 25, 3) := by decide +kernel
theorem dX12_init_54 : decode cX12_init 54 = .ok (.aload_n 0, 1) := by decide +kernel
theorem dX12_init_55 : decode cX12_init 55 = .ok (.bipush 6, 2) := by decide +kernel
theorem dX12_init_57 : decode cX12_init 57 = .ok (.newarray .int, 2) := by decide +kernel
theorem dX12_init_59 : decode cX12_init 59 = .ok (.putfield 29, 3) := by decide +kernel
theorem dX12_init_62 : decode cX12_init 62 = .ok (.aload_n 0, 1) := by decide +kernel
theorem dX12_init_63 : decode cX12_init 63 = .ok (.sipush 2100, 3) := by decide +kernel
theorem dX12_init_66 : decode cX12_init 66 = .ok (.newarray .int, 2) := by decide +kernel
theorem dX12_init_68 : decode cX12_init 68 = .ok (.putfield 32, 3) := by decide +kernel
theorem dX12_init_71 : decode cX12_init 71 = .ok (.aload_n 0, 1) := by decide +kernel
theorem dX12_init_72 : decode cX12_init 72 = .ok (.bipush 100, 2) := by decide +kernel
theorem dX12_init_74 : decode cX12_init 74 = .ok (.newarray .int, 2) := by decide +kernel
theorem dX12_init_76 : decode cX12_init 76 = .ok (.putfield 35, 3) := by decide +kernel
theorem dX12_init_79 : decode cX12_init 79 = .ok (.aload_n 0, 1) := by decide +kernel
theorem dX12_init_80 : decode cX12_init 80 = .ok (.bipush 8, 2) := by decide +kernel
theorem dX12_init_82 : decode cX12_init 82 = .ok (.newarray .int, 2) := by decide +kernel
theorem dX12_init_84 : decode cX12_init 84 = .ok (.putfield 38, 3) := by decide +kernel
theorem dX12_init_87 : decode cX12_init 87 = .ok (.aload_n 0, 1) := by decide +kernel
theorem dX12_init_88 : decode cX12_init 88 = .ok (.bipush 8, 2) := by decide +kernel
theorem dX12_init_90 : decode cX12_init 90 = .ok (.newarray .int, 2) := by decide +kernel
theorem dX12_init_92 : decode cX12_init 92 = .ok (.putfield 41, 3) := by decide +kernel
theorem dX12_init_95 : decode cX12_init 95 = .ok (.aload_n 0, 1) := by decide +kernel
theorem dX12_init_96 : decode cX12_init 96 = .ok (.sipush 256, 3) := by decide +kernel
theorem dX12_init_99 : decode cX12_init 99 = .ok (.newarray .boolean, 2) := by decide +kernel
theorem dX12_init_101 : decode cX12_init 101 = .ok (.putfield 44, 3) := by decide +kernel
theorem dX12_init_104 : decode cX12_init 104 = .ok (.aload_n 0, 1) := by decide +kernel
theorem dX12_init_105 : decode cX12_init 105 = .ok (.sipush 256, 3) := by decide +kernel
theorem dX12_init_108 : decode cX12_init 108 = .ok (.newarray .int, 2) := by decide +kernel
theorem dX12_init_110 : decode cX12_init 110 = .ok (.putfield 48, 3) := by decide +kernel
theorem dX12_init_113 : decode cX12_init 113 = .ok (.aload_n 0, 1) := by decide +kernel
theorem dX12_init_114 : decode cX12_init 114 = .ok (.getfield 7, 3) := by decide +kernel
theorem dX12_init_117 : decode cX12_init 117 = .ok (.iconst 1, 1) := by decide +kernel
theorem dX12_init_118 : decode cX12_init 118 = .ok (.iconst (-1), 1) := by decide +kernel
theorem dX12_init_119 : decode cX12_init 119 = .ok (.iastore, 1) := by decide +kernel
theorem dX12_init_120 : decode cX12_init 120 = .ok (.aload_n 0, 1) := by decide +kernel
theorem dX12_init_121 : decode cX12_init 121 = .ok (.getfield 7, 3) := by decide +kernel
theorem dX12_init_124 : decode cX12_init 124 = .ok (.iconst 5, 1) := by decide +kernel
theorem dX12_init_125 : decode cX12_init 125 = .ok (.bipush 20, 2) := by decide +kernel
theorem dX12_init_127 : decode cX12_init 127 = .ok (.iastore, 1) := by decide +kernel
theorem dX12_init_128 : decode cX12_init 128 = .ok (.aload_n 0, 1) := by decide +kernel
theorem dX12_init_129 : decode cX12_init 129 = .ok (.getfield 7, 3) := by decide +kernel
theorem dX12_init_132 : decode cX12_init 132 = .ok (.bipush 6, 2) := by decide +kernel
theorem dX12_init_134 : decode cX12_init 134 = .ok (.iconst 1, 1) := by decide +kernel
theorem dX12_init_135 : decode cX12_init 135 = .ok (.iastore, 1) := by decide +kernel
theorem dX12_init_136 : decode cX12_init 136 = .ok (.aload_n 0, 1) := by decide +kernel
theorem dX12_init_137 : decode cX12_init 137 = .ok (.getfield 7, 3) := by decide +kernel
theorem dX12_init_140 : decode cX12_init 140 = .ok (.bipush 7, 2) := by decide +kernel
theorem dX12_init_142 : decode cX12_init 142 = .ok (.bipush 10, 2) := by decide +kernel
theorem dX12_init_144 : decode cX12_init 144 = .ok (.iastore, 1) := by decide +kernel
theorem dX12_init_145 : decode cX12_init 145 = .ok (.aload_n 0, 1) := by decide +kernel
theorem dX12_init_146 : decode cX12_init 146 = .ok (.getfield 7, 3) := by decide +kernel
theorem dX12_init_149 : decode cX12_init 149 = .ok (.bipush 12, 2) := by decide +kernel
theorem dX12_init_151 : decode cX12_init 151 = .ok (.iconst 1, 1) := by decide +kernel
theorem dX12_init_152 : decode cX12_init 152 = .ok (.iastore, 1) := by decide +kernel
theorem dX12_init_153 : decode cX12_init 153 = .ok (.return_, 1) := by decide +kernel
theorem dX12_thrown_0 : decode cX12_thrown 0 = .ok (.aload_n 0, 1) := by decide +kernel
theorem dX12_thrown_1 : decode cX12_thrown 1 = .ok (.getfield 51, 3) := by decide +kernel
theorem dX12_thrown_4 : decode cX12_thrown 4 = .ok (.ireturn, 1) := by decide +kernel
theorem dX12_isIn_0 : decode cX12_isIn 0 = .ok (.iload_n 0, 1) := by decide +kernel
theorem dX12_isIn_1 : decode cX12_isIn 1 = .ok (.iload_n 1, 1) := by decide +kernel
theorem dX12_isIn_2 : decode cX12_isIn 2 = .ok (.if_icmp .lt 12, 3) := by decide +kernel
theorem dX12_isIn_5 : decode cX12_isIn 5 = .ok (.iload_n 0, 1) := by decide +kernel
theorem dX12_isIn_6 : decode cX12_isIn 6 = .ok (.iload_n 2, 1) := by decide +kernel
theorem dX12_isIn_7 : decode cX12_isIn 7 = .ok (.if_icmp .gt 7, 3) := by decide +kernel
theorem dX12_isIn_10 : decode cX12_isIn 10 = .ok (.iconst 1, 1) := by decide +kernel
theorem dX12_isIn_11 : decode cX12_isIn 11 = .ok (.goto 4, 3) := by decide +kernel
theorem dX12_isIn_14 : decode cX12_isIn 14 = .ok (.iconst 0, 1) := by decide +kernel
theorem dX12_isIn_15 : decode cX12_isIn 15 = .ok (.ireturn, 1) := by decide +kernel
theorem dX12_lesser_0 : decode cX12_lesser 0 = .ok (.iload_n 0, 1) := by decide +kernel
theorem dX12_lesser_1 : decode cX12_lesser 1 = .ok (.iload_n 1, 1) := by decide +kernel
theorem dX12_lesser_2 : decode cX12_lesser 2 = .ok (.if_icmp .ge 7, 3) := by decide +kernel
theorem dX12_lesser_5 : decode cX12_lesser 5 = .ok (.iload_n 0, 1) := by decide +kernel
theorem dX12_lesser_6 : decode cX12_lesser 6 = .ok (.goto 4, 3) := by decide +kernel
theorem dX12_lesser_9 : decode cX12_lesser 9 = .ok (.iload_n 1, 1) := by decide +kernel
theorem dX12_lesser_10 : decode cX12_lesser 10 = .ok (.ireturn, 1) := by decide +kernel
theorem dX12_greater_0 : decode cX12_greater 0 = .ok (.iload_n 0, 1) := by decide +kernel
theorem dX12_greater_1 : decode cX12_greater 1 = .ok (.iload_n 1, 1) := by decide +kernel
theorem dX12_greater_2 : decode cX12_greater 2 = .ok (.if_icmp .le 7, 3) := by decide +kernel
theorem dX12_greater_5 : decode cX12_greater 5 = .ok (.iload_n 0, 1) := by decide +kernel
theorem dX12_greater_6 : decode cX12_greater 6 = .ok (.goto 4, 3) := by decide +kernel
theorem dX12_greater_9 : decode cX12_greater 9 = .ok (.iload_n 1, 1) := by decide +kernel
theorem dX12_greater_10 : decode cX12_greater 10 = .ok (.ireturn, 1) := by decide +kernel
theorem dX12_isOf_0 : decode cX12_isOf 0 = .ok (.iload_n 0, 1) := by decide +kernel
theorem dX12_isOf_1 : decode cX12_isOf 1 = .ok (.iload_n 1, 1) := by decide +kernel
theorem dX12_isOf_2 : decode cX12_isOf 2 = .ok (.ishr, 1) := by decide +kernel
theorem dX12_isOf_3 : decode cX12_isOf 3 = .ok (.iconst 1, 1) := by decide +kernel
theorem dX12_isOf_4 : decode cX12_isOf 4 = .ok (.iand, 1) := by decide +kernel
theorem dX12_isOf_5 : decode cX12_isOf 5 = .ok (.iconst 1, 1) := by decide +kernel
theorem dX12_isOf_6 : decode cX12_isOf 6 = .ok (.if_icmp .ne 7, 3) := by decide +kernel
theorem dX12_isOf_9 : decode cX12_isOf 9 = .ok (.iconst 1, 1) := by decide +kernel
theorem dX12_isOf_10 : decode cX12_isOf 10 = .ok (.goto 4, 3) := by decide +kernel
theorem dX12_isOf_13 : decode cX12_isOf 13 = .ok (.iconst 0, 1) := by decide +kernel
theorem dX12_isOf_14 : decode cX12_isOf 14 = .ok (.ireturn, 1) := by decide +kernel
theorem dX12_bits_0 : decode cX12_bits 0 = .ok (.iconst 0, 1) := by decide +kernel
theorem dX12_bits_1 : decode cX12_bits 1 = .ok (.istore_n 1, 1) := by decide +kernel
theorem dX12_bits_2 : decode cX12_bits 2 = .ok (.iconst 0, 1) := by decide +kernel
theorem dX12_bits_3 : decode cX12_bits 3 = .ok (.istore_n 2, 1) := by decide +kernel
theorem dX12_bits_4 : decode cX12_bits 4 = .ok (.iload_n 2, 1) := by decide +kernel
theorem dX12_bits_5 : decode cX12_bits 5 = .ok (.bipush 31, 2) := by decide +kernel
theorem dX12_bits_7 : decode cX12_bits 7 = .ok (.if_icmp .ge 17, 3) := by decide +kernel
theorem dX12_bits_10 : decode cX12_bits 10 = .ok (.iload_n 1, 1) := by decide +kernel
theorem dX12_bits_11 : decode cX12_bits 11 = .ok (.iload_n 0, 1) := by decide +kernel
theorem dX12_bits_12 : decode cX12_bits 12 = .ok (.iload_n 2, 1) := by decide +kernel
theorem dX12_bits_13 : decode cX12_bits 13 = .ok (.ishr, 1) := by decide +kernel
theorem dX12_bits_14 : decode cX12_bits 14 = .ok (.iconst 1, 1) := by decide +kernel
theorem dX12_bits_15 : decode cX12_bits 15 = .ok (.iand, 1) := by decide +kernel
theorem dX12_bits_16 : decode cX12_bits 16 = .ok (.iadd, 1) := by decide +kernel
theorem dX12_bits_17 : decode cX12_bits 17 = .ok (.istore_n 1, 1) := by decide +kernel
theorem dX12_bits_18 : decode cX12_bits 18 = .ok (.iinc 2 1, 3) := by decide +kernel
theorem dX12_bits_21 : decode cX12_bits 21 = .ok (.goto (-17), 3) := by decide +kernel
theorem dX12_bits_24 : decode cX12_bits 24 = .ok (.iload_n 1, 1) := by decide +kernel
theorem dX12_bits_25 : decode cX12_bits 25 = .ok (.ireturn, 1) := by decide +kernel
theorem dX12_of_0 : decode cX12_of 0 = .ok (.aload_n 0, 1) := by decide +kernel
theorem dX12_of_1 : decode cX12_of 1 = .ok (.getfield 7, 3) := by decide +kernel
theorem dX12_of_4 : decode cX12_of 4 = .ok (.bipush 14, 2) := by decide +kernel
theorem dX12_of_6 : decode cX12_of 6 = .ok (.iconst 4, 1) := by decide +kernel
theorem dX12_of_7 : decode cX12_of 7 = .ok (.iload_n 1, 1) := by decide +kernel
theorem dX12_of_8 : decode cX12_of 8 = .ok (.imul, 1) := by decide +kernel
theorem dX12_of_9 : decode cX12_of 9 = .ok (.iadd, 1) := by decide +kernel
theorem dX12_of_10 : decode cX12_of 10 = .ok (.iload_n 2, 1) := by decide +kernel
theorem dX12_of_11 : decode cX12_of 11 = .ok (.iadd, 1) := by decide +kernel
theorem dX12_of_12 : decode cX12_of 12 = .ok (.iaload, 1) := by decide +kernel
theorem dX12_of_13 : decode cX12_of 13 = .ok (.ireturn, 1) := by decide +kernel
theorem dX12_has_0 : decode cX12_has 0 = .ok (.aload_n 0, 1) := by decide +kernel
theorem dX12_has_1 : decode cX12_has 1 = .ok (.getfield 7, 3) := by decide +kernel
theorem dX12_has_4 : decode cX12_has 4 = .ok (.bipush 14, 2) := by decide +kernel
theorem dX12_has_6 : decode cX12_has 6 = .ok (.iconst 4, 1) := by decide +kernel
theorem dX12_has_7 : decode cX12_has 7 = .ok (.iload_n 1, 1) := by decide +kernel
theorem dX12_has_8 : decode cX12_has 8 = .ok (.imul, 1) := by decide +kernel
theorem dX12_has_9 : decode cX12_has 9 = .ok (.iadd, 1) := by decide +kernel
theorem dX12_has_10 : decode cX12_has 10 = .ok (.iload_n 2, 1) := by decide +kernel
theorem dX12_has_11 : decode cX12_has 11 = .ok (.iadd, 1) := by decide +kernel
theorem dX12_has_12 : decode cX12_has 12 = .ok (.iload_n 3, 1) := by decide +kernel
theorem dX12_has_13 : decode cX12_has 13 = .ok (.iastore, 1) := by decide +kernel
theorem dX12_has_14 : decode cX12_has 14 = .ok (.return_, 1) := by decide +kernel
theorem dX12_ofMatch_0 : decode cX12_ofMatch 0 = .ok (.aload_n 0, 1) := by decide +kernel
theorem dX12_ofMatch_1 : decode cX12_ofMatch 1 = .ok (.getfield 7, 3) := by decide +kernel
theorem dX12_ofMatch_4 : decode cX12_ofMatch 4 = .ok (.bipush 110, 2) := by decide +kernel
theorem dX12_ofMatch_6 : decode cX12_ofMatch 6 = .ok (.iconst 5, 1) := by decide +kernel
theorem dX12_ofMatch_7 : decode cX12_ofMatch 7 = .ok (.iload_n 1, 1) := by decide +kernel
theorem dX12_ofMatch_8 : decode cX12_ofMatch 8 = .ok (.imul, 1) := by decide +kernel
theorem dX12_ofMatch_9 : decode cX12_ofMatch 9 = .ok (.iadd, 1) := by decide +kernel
theorem dX12_ofMatch_10 : decode cX12_ofMatch 10 = .ok (.iload_n 2, 1) := by decide +kernel
theorem dX12_ofMatch_11 : decode cX12_ofMatch 11 = .ok (.iadd, 1) := by decide +kernel
theorem dX12_ofMatch_12 : decode cX12_ofMatch 12 = .ok (.iaload, 1) := by decide +kernel
theorem dX12_ofMatch_13 : decode cX12_ofMatch 13 = .ok (.ireturn, 1) := by decide +kernel
theorem dX12_told_0 : decode cX12_told 0 = .ok (.aload_n 0, 1) := by decide +kernel
theorem dX12_told_1 : decode cX12_told 1 = .ok (.getfield 7, 3) := by decide +kernel
theorem dX12_told_4 : decode cX12_told 4 = .ok (.bipush 110, 2) := by decide +kernel
theorem dX12_told_6 : decode cX12_told 6 = .ok (.iconst 5, 1) := by decide +kernel
theorem dX12_told_7 : decode cX12_told 7 = .ok (.iload_n 1, 1) := by decide +kernel
theorem dX12_told_8 : decode cX12_told 8 = .ok (.imul, 1) := by decide +kernel
theorem dX12_told_9 : decode cX12_told 9 = .ok (.iadd, 1) := by decide +kernel
theorem dX12_told_10 : decode cX12_told 10 = .ok (.iload_n 2, 1) := by decide +kernel
theorem dX12_told_11 : decode cX12_told 11 = .ok (.iadd, 1) := by decide +kernel
theorem dX12_told_12 : decode cX12_told 12 = .ok (.iload_n 3, 1) := by decide +kernel
theorem dX12_told_13 : decode cX12_told 13 = .ok (.iastore, 1) := by decide +kernel
theorem dX12_told_14 : decode cX12_told 14 = .ok (.return_, 1) := by decide +kernel
theorem dX12_likes_0 : decode cX12_likes 0 = .ok (.aload_n 0, 1) := by decide +kernel
theorem dX12_likes_1 : decode cX12_likes 1 = .ok (.getfield 7, 3) := by decide +kernel
theorem dX12_likes_4 : decode cX12_likes 4 = .ok (.bipush 46, 2) := by decide +kernel
theorem dX12_likes_6 : decode cX12_likes 6 = .ok (.bipush 8, 2) := by decide +kernel
theorem dX12_likes_8 : decode cX12_likes 8 = .ok (.iload_n 1, 1) := by decide +kernel
theorem dX12_likes_9 : decode cX12_likes 9 = .ok (.imul, 1) := by decide +kernel
theorem dX12_likes_10 : decode cX12_likes 10 = .ok (.iadd, 1) := by decide +kernel
theorem dX12_likes_11 : decode cX12_likes 11 = .ok (.iload_n 2, 1) := by decide +kernel
theorem dX12_likes_12 : decode cX12_likes 12 = .ok (.iadd, 1) := by decide +kernel
theorem dX12_likes_13 : decode cX12_likes 13 = .ok (.iaload, 1) := by decide +kernel
theorem dX12_likes_14 : decode cX12_likes 14 = .ok (.ireturn, 1) := by decide +kernel
theorem dX12_isPerson_0 : decode cX12_isPerson 0 = .ok (.iload_n 1, 1) := by decide +kernel
theorem dX12_isPerson_1 : decode cX12_isPerson 1 = .ok (.iconst 0, 1) := by decide +kernel
theorem dX12_isPerson_2 : decode cX12_isPerson 2 = .ok (.aload_n 0, 1) := by decide +kernel
theorem dX12_isPerson_3 : decode cX12_isPerson 3 = .ok (.getfield 7, 3) := by decide +kernel
theorem dX12_isPerson_6 : decode cX12_isPerson 6 = .ok (.iconst 3, 1) := by decide +kernel
theorem dX12_isPerson_7 : decode cX12_isPerson 7 = .ok (.iaload, 1) := by decide +kernel
theorem dX12_isPerson_8 : decode cX12_isPerson 8 = .ok (.iconst 1, 1) := by decide +kernel
theorem dX12_isPerson_9 : decode cX12_isPerson 9 = .ok (.isub, 1) := by decide +kernel
theorem dX12_isPerson_10 : decode cX12_isPerson 10 = .ok (.invokestatic 54, 3) := by decide +kernel
theorem dX12_isPerson_13 : decode cX12_isPerson 13 = .ok (.ireturn, 1) := by decide +kernel
theorem dX12_isMatch_0 : decode cX12_isMatch 0 = .ok (.iload_n 1, 1) := by decide +kernel
theorem dX12_isMatch_1 : decode cX12_isMatch 1 = .ok (.iconst 0, 1) := by decide +kernel
theorem dX12_isMatch_2 : decode cX12_isMatch 2 = .ok (.aload_n 0, 1) := by decide +kernel
theorem dX12_isMatch_3 : decode cX12_isMatch 3 = .ok (.getfield 7, 3) := by decide +kernel
theorem dX12_isMatch_6 : decode cX12_isMatch 6 = .ok (.iconst 4, 1) := by decide +kernel
theorem dX12_isMatch_7 : decode cX12_isMatch 7 = .ok (.iaload, 1) := by decide +kernel
theorem dX12_isMatch_8 : decode cX12_isMatch 8 = .ok (.iconst 1, 1) := by decide +kernel
theorem dX12_isMatch_9 : decode cX12_isMatch 9 = .ok (.isub, 1) := by decide +kernel
theorem dX12_isMatch_10 : decode cX12_isMatch 10 = .ok (.invokestatic 54, 3) := by decide +kernel
theorem dX12_isMatch_13 : decode cX12_isMatch 13 = .ok (.ireturn, 1) := by decide +kernel
theorem dX12_wedTo_0 : decode cX12_wedTo 0 = .ok (.iconst 0, 1) := by decide +kernel
theorem dX12_wedTo_1 : decode cX12_wedTo 1 = .ok (.istore_n 2, 1) := by decide +kernel
theorem dX12_wedTo_2 : decode cX12_wedTo 2 = .ok (.iload_n 2, 1) := by decide +kernel
theorem dX12_wedTo_3 : decode cX12_wedTo 3 = .ok (.aload_n 0, 1) := by decide +kernel
theorem dX12_wedTo_4 : decode cX12_wedTo 4 = .ok (.getfield 7, 3) := by decide +kernel
theorem dX12_wedTo_7 : decode cX12_wedTo 7 = .ok (.iconst 4, 1) := by decide +kernel
theorem dX12_wedTo_8 : decode cX12_wedTo 8 = .ok (.iaload, 1) := by decide +kernel
theorem dX12_wedTo_9 : decode cX12_wedTo 9 = .ok (.if_icmp .ge 56, 3) := by decide +kernel
theorem dX12_wedTo_12 : decode cX12_wedTo 12 = .ok (.aload_n 0, 1) := by decide +kernel
theorem dX12_wedTo_13 : decode cX12_wedTo 13 = .ok (.iload_n 2, 1) := by decide +kernel
theorem dX12_wedTo_14 : decode cX12_wedTo 14 = .ok (.iconst 4, 1) := by decide +kernel
theorem dX12_wedTo_15 : decode cX12_wedTo 15 = .ok (.invokevirtual 58, 3) := by decide +kernel
theorem dX12_wedTo_18 : decode cX12_wedTo 18 = .ok (.iconst 1, 1) := by decide +kernel
theorem dX12_wedTo_19 : decode cX12_wedTo 19 = .ok (.if_icmp .ne 6, 3) := by decide +kernel
theorem dX12_wedTo_22 : decode cX12_wedTo 22 = .ok (.goto 37, 3) := by decide +kernel
theorem dX12_wedTo_25 : decode cX12_wedTo 25 = .ok (.aload_n 0, 1) := by decide +kernel
theorem dX12_wedTo_26 : decode cX12_wedTo 26 = .ok (.iload_n 2, 1) := by decide +kernel
theorem dX12_wedTo_27 : decode cX12_wedTo 27 = .ok (.iconst 0, 1) := by decide +kernel
theorem dX12_wedTo_28 : decode cX12_wedTo 28 = .ok (.invokevirtual 58, 3) := by decide +kernel
theorem dX12_wedTo_31 : decode cX12_wedTo 31 = .ok (.iload_n 1, 1) := by decide +kernel
theorem dX12_wedTo_32 : decode cX12_wedTo 32 = .ok (.if_icmp .ne 10, 3) := by decide +kernel
theorem dX12_wedTo_35 : decode cX12_wedTo 35 = .ok (.aload_n 0, 1) := by decide +kernel
theorem dX12_wedTo_36 : decode cX12_wedTo 36 = .ok (.iload_n 2, 1) := by decide +kernel
theorem dX12_wedTo_37 : decode cX12_wedTo 37 = .ok (.iconst 1, 1) := by decide +kernel
theorem dX12_wedTo_38 : decode cX12_wedTo 38 = .ok (.invokevirtual 58, 3) := by decide +kernel
theorem dX12_wedTo_41 : decode cX12_wedTo 41 = .ok (.ireturn, 1) := by decide +kernel
theorem dX12_wedTo_42 : decode cX12_wedTo 42 = .ok (.aload_n 0, 1) := by decide +kernel
theorem dX12_wedTo_43 : decode cX12_wedTo 43 = .ok (.iload_n 2, 1) := by decide +kernel
theorem dX12_wedTo_44 : decode cX12_wedTo 44 = .ok (.iconst 1, 1) := by decide +kernel
theorem dX12_wedTo_45 : decode cX12_wedTo 45 = .ok (.invokevirtual 58, 3) := by decide +kernel
theorem dX12_wedTo_48 : decode cX12_wedTo 48 = .ok (.iload_n 1, 1) := by decide +kernel
theorem dX12_wedTo_49 : decode cX12_wedTo 49 = .ok (.if_icmp .ne 10, 3) := by decide +kernel
theorem dX12_wedTo_52 : decode cX12_wedTo 52 = .ok (.aload_n 0, 1) := by decide +kernel
theorem dX12_wedTo_53 : decode cX12_wedTo 53 = .ok (.iload_n 2, 1) := by decide +kernel
theorem dX12_wedTo_54 : decode cX12_wedTo 54 = .ok (.iconst 0, 1) := by decide +kernel
theorem dX12_wedTo_55 : decode cX12_wedTo 55 = .ok (.invokevirtual 58, 3) := by decide +kernel
theorem dX12_wedTo_58 : decode cX12_wedTo 58 = .ok (.ireturn, 1) := by decide +kernel
theorem dX12_wedTo_59 : decode cX12_wedTo 59 = .ok (.iinc 2 1, 3) := by decide +kernel
theorem dX12_wedTo_62 : decode cX12_wedTo 62 = .ok (.goto (-60), 3) := by decide +kernel
theorem dX12_wedTo_65 : decode cX12_wedTo 65 = .ok (.iconst (-1), 1) := by decide +kernel
theorem dX12_wedTo_66 : decode cX12_wedTo 66 = .ok (.ireturn, 1) := by decide +kernel
theorem dX12_insurersOf_0 : decode cX12_insurersOf 0 = .ok (.iconst 0, 1) := by decide +kernel
theorem dX12_insurersOf_1 : decode cX12_insurersOf 1 = .ok (.istore_n 3, 1) := by decide +kernel
theorem dX12_insurersOf_2 : decode cX12_insurersOf 2 = .ok (.iconst 0, 1) := by decide +kernel
theorem dX12_insurersOf_3 : decode cX12_insurersOf 3 = .ok (.istore 4, 2) := by decide +kernel
theorem dX12_insurersOf_5 : decode cX12_insurersOf 5 = .ok (.iload 4, 2) := by decide +kernel
theorem dX12_insurersOf_7 : decode cX12_insurersOf 7 = .ok (.aload_n 0, 1) := by decide +kernel
theorem dX12_insurersOf_8 : decode cX12_insurersOf 8 = .ok (.getfield 7, 3) := by decide +kernel
theorem dX12_insurersOf_11 : decode cX12_insurersOf 11 = .ok (.iconst 3, 1) := by decide +kernel
theorem dX12_insurersOf_12 : decode cX12_insurersOf 12 = .ok (.iaload, 1) := by decide +kernel
theorem dX12_insurersOf_13 : decode cX12_insurersOf 13 = .ok (.if_icmp .ge 66, 3) := by decide +kernel
theorem dX12_insurersOf_16 : decode cX12_insurersOf 16 = .ok (.iload 4, 2) := by decide +kernel
theorem dX12_insurersOf_18 : decode cX12_insurersOf 18 = .ok (.iload_n 1, 1) := by decide +kernel
theorem dX12_insurersOf_19 : decode cX12_insurersOf 19 = .ok (.if_icmp .eq 54, 3) := by decide +kernel
theorem dX12_insurersOf_22 : decode cX12_insurersOf 22 = .ok (.iload 4, 2) := by decide +kernel
theorem dX12_insurersOf_24 : decode cX12_insurersOf 24 = .ok (.iload_n 2, 1) := by decide +kernel
theorem dX12_insurersOf_25 : decode cX12_insurersOf 25 = .ok (.if_icmp .eq 48, 3) := by decide +kernel
theorem dX12_insurersOf_28 : decode cX12_insurersOf 28 = .ok (.aload_n 0, 1) := by decide +kernel
theorem dX12_insurersOf_29 : decode cX12_insurersOf 29 = .ok (.iload 4, 2) := by decide +kernel
theorem dX12_insurersOf_31 : decode cX12_insurersOf 31 = .ok (.iconst 3, 1) := by decide +kernel
theorem dX12_insurersOf_32 : decode cX12_insurersOf 32 = .ok (.invokevirtual 62, 3) := by decide +kernel
theorem dX12_insurersOf_35 : decode cX12_insurersOf 35 = .ok (.ifCond .ne 38, 3) := by decide +kernel
theorem dX12_insurersOf_38 : decode cX12_insurersOf 38 = .ok (.aload_n 0, 1) := by decide +kernel
theorem dX12_insurersOf_39 : decode cX12_insurersOf 39 = .ok (.iload 4, 2) := by decide +kernel
theorem dX12_insurersOf_41 : decode cX12_insurersOf 41 = .ok (.iconst 1, 1) := by decide +kernel
theorem dX12_insurersOf_42 : decode cX12_insurersOf 42 = .ok (.invokevirtual 62, 3) := by decide +kernel
theorem dX12_insurersOf_45 : decode cX12_insurersOf 45 = .ok (.iload_n 1, 1) := by decide +kernel
theorem dX12_insurersOf_46 : decode cX12_insurersOf 46 = .ok (.invokestatic 65, 3) := by decide +kernel
theorem dX12_insurersOf_49 : decode cX12_insurersOf 49 = .ok (.ifCond .ne 17, 3) := by decide +kernel
theorem dX12_insurersOf_52 : decode cX12_insurersOf 52 = .ok (.aload_n 0, 1) := by decide +kernel
theorem dX12_insurersOf_53 : decode cX12_insurersOf 53 = .ok (.iload 4, 2) := by decide +kernel
theorem dX12_insurersOf_55 : decode cX12_insurersOf 55 = .ok (.iconst 1, 1) := by decide +kernel
theorem dX12_insurersOf_56 : decode cX12_insurersOf 56 = .ok (.invokevirtual 62, 3) := by decide +kernel
theorem dX12_insurersOf_59 : decode cX12_insurersOf 59 = .ok (.iload_n 2, 1) := by decide +kernel
theorem dX12_insurersOf_60 : decode cX12_insurersOf 60 = .ok (.invokestatic 65, 3) := by decide +kernel
theorem dX12_insurersOf_63 : decode cX12_insurersOf 63 = .ok (.ifCond .eq 10, 3) := by decide +kernel
theorem dX12_insurersOf_66 : decode cX12_insurersOf 66 = .ok (.iload_n 3, 1) := by decide +kernel
theorem dX12_insurersOf_67 : decode cX12_insurersOf 67 = .ok (.iconst 1, 1) := by decide +kernel
theorem dX12_insurersOf_68 : decode cX12_insurersOf 68 = .ok (.iload 4, 2) := by decide +kernel
theorem dX12_insurersOf_70 : decode cX12_insurersOf 70 = .ok (.ishl, 1) := by decide +kernel
theorem dX12_insurersOf_71 : decode cX12_insurersOf 71 = .ok (.ior, 1) := by decide +kernel
theorem dX12_insurersOf_72 : decode cX12_insurersOf 72 = .ok (.istore_n 3, 1) := by decide +kernel
theorem dX12_insurersOf_73 : decode cX12_insurersOf 73 = .ok (.iinc 4 1, 3) := by decide +kernel
theorem dX12_insurersOf_76 : decode cX12_insurersOf 76 = .ok (.goto (-71), 3) := by decide +kernel
theorem dX12_insurersOf_79 : decode cX12_insurersOf 79 = .ok (.iload_n 3, 1) := by decide +kernel
theorem dX12_insurersOf_80 : decode cX12_insurersOf 80 = .ok (.invokestatic 69, 3) := by decide +kernel
theorem dX12_insurersOf_83 : decode cX12_insurersOf 83 = .ok (.iconst 2, 1) := by decide +kernel
theorem dX12_insurersOf_84 : decode cX12_insurersOf 84 = .ok (.if_icmp .ge 7, 3) := by decide +kernel
theorem dX12_insurersOf_87 : decode cX12_insurersOf 87 = .ok (.iconst 0, 1) := by decide +kernel
theorem dX12_insurersOf_88 : decode cX12_insurersOf 88 = .ok (.goto 4, 3) := by decide +kernel
theorem dX12_insurersOf_91 : decode cX12_insurersOf 91 = .ok (.iload_n 3, 1) := by decide +kernel
theorem dX12_insurersOf_92 : decode cX12_insurersOf 92 = .ok (.ireturn, 1) := by decide +kernel
theorem dX12_insurers_0 : decode cX12_insurers 0 = .ok (.aload_n 0, 1) := by decide +kernel
theorem dX12_insurers_1 : decode cX12_insurers 1 = .ok (.iload_n 1, 1) := by decide +kernel
theorem dX12_insurers_2 : decode cX12_insurers 2 = .ok (.iconst 4, 1) := by decide +kernel
theorem dX12_insurers_3 : decode cX12_insurers 3 = .ok (.invokevirtual 58, 3) := by decide +kernel
theorem dX12_insurers_6 : decode cX12_insurers 6 = .ok (.iconst 1, 1) := by decide +kernel
theorem dX12_insurers_7 : decode cX12_insurers 7 = .ok (.if_icmp .ne 7, 3) := by decide +kernel
theorem dX12_insurers_10 : decode cX12_insurers 10 = .ok (.iconst 0, 1) := by decide +kernel
theorem dX12_insurers_11 : decode cX12_insurers 11 = .ok (.goto 19, 3) := by decide +kernel
theorem dX12_insurers_14 : decode cX12_insurers 14 = .ok (.aload_n 0, 1) := by decide +kernel
theorem dX12_insurers_15 : decode cX12_insurers 15 = .ok (.aload_n 0, 1) := by decide +kernel
theorem dX12_insurers_16 : decode cX12_insurers 16 = .ok (.iload_n 1, 1) := by decide +kernel
theorem dX12_insurers_17 : decode cX12_insurers 17 = .ok (.iconst 0, 1) := by decide +kernel
theorem dX12_insurers_18 : decode cX12_insurers 18 = .ok (.invokevirtual 58, 3) := by decide +kernel
theorem dX12_insurers_21 : decode cX12_insurers 21 = .ok (.aload_n 0, 1) := by decide +kernel
theorem dX12_insurers_22 : decode cX12_insurers 22 = .ok (.iload_n 1, 1) := by decide +kernel
theorem dX12_insurers_23 : decode cX12_insurers 23 = .ok (.iconst 1, 1) := by decide +kernel
theorem dX12_insurers_24 : decode cX12_insurers 24 = .ok (.invokevirtual 58, 3) := by decide +kernel
theorem dX12_insurers_27 : decode cX12_insurers 27 = .ok (.invokevirtual 73, 3) := by decide +kernel
theorem dX12_insurers_30 : decode cX12_insurers 30 = .ok (.ireturn, 1) := by decide +kernel
theorem dX12_feed_0 : decode cX12_feed 0 = .ok (.aload_n 0, 1) := by decide +kernel
theorem dX12_feed_1 : decode cX12_feed 1 = .ok (.iconst 0, 1) := by decide +kernel
theorem dX12_feed_2 : decode cX12_feed 2 = .ok (.putfield 51, 3) := by decide +kernel
theorem dX12_feed_5 : decode cX12_feed 5 = .ok (.aload_n 0, 1) := by decide +kernel
theorem dX12_feed_6 : decode cX12_feed 6 = .ok (.getfield 76, 3) := by decide +kernel
theorem dX12_feed_9 : decode cX12_feed 9 = .ok (.bipush 20, 2) := by decide +kernel
theorem dX12_feed_11 : decode cX12_feed 11 = .ok (.iadd, 1) := by decide +kernel
theorem dX12_feed_12 : decode cX12_feed 12 = .ok (.sipush 400, 3) := by decide +kernel
theorem dX12_feed_15 : decode cX12_feed 15 = .ok (.if_icmp .le 5, 3) := by decide +kernel
theorem dX12_feed_18 : decode cX12_feed 18 = .ok (.iconst (-1), 1) := by decide +kernel
theorem dX12_feed_19 : decode cX12_feed 19 = .ok (.ireturn, 1) := by decide +kernel
theorem dX12_feed_20 : decode cX12_feed 20 = .ok (.iconst 0, 1) := by decide +kernel
theorem dX12_feed_21 : decode cX12_feed 21 = .ok (.istore 6, 2) := by decide +kernel
theorem dX12_feed_23 : decode cX12_feed 23 = .ok (.iload 6, 2) := by decide +kernel
theorem dX12_feed_25 : decode cX12_feed 25 = .ok (.bipush 20, 2) := by decide +kernel
theorem dX12_feed_27 : decode cX12_feed 27 = .ok (.if_icmp .ge 93, 3) := by decide +kernel
theorem dX12_feed_30 : decode cX12_feed 30 = .ok (.iload 6, 2) := by decide +kernel
theorem dX12_feed_32 : decode cX12_feed 32 = .ok (.iconst 4, 1) := by decide +kernel
theorem dX12_feed_33 : decode cX12_feed 33 = .ok (.if_icmp .ge 7, 3) := by decide +kernel
theorem dX12_feed_36 : decode cX12_feed 36 = .ok (.iload_n 1, 1) := by decide +kernel
theorem dX12_feed_37 : decode cX12_feed 37 = .ok (.goto 39, 3) := by decide +kernel
theorem dX12_feed_40 : decode cX12_feed 40 = .ok (.iload 6, 2) := by decide +kernel
theorem dX12_feed_42 : decode cX12_feed 42 = .ok (.bipush 8, 2) := by decide +kernel
theorem dX12_feed_44 : decode cX12_feed 44 = .ok (.if_icmp .ge 7, 3) := by decide +kernel
theorem dX12_feed_47 : decode cX12_feed 47 = .ok (.iload_n 2, 1) := by decide +kernel
theorem dX12_feed_48 : decode cX12_feed 48 = .ok (.goto 28, 3) := by decide +kernel
theorem dX12_feed_51 : decode cX12_feed 51 = .ok (.iload 6, 2) := by decide +kernel
theorem dX12_feed_53 : decode cX12_feed 53 = .ok (.bipush 12, 2) := by decide +kernel
theorem dX12_feed_55 : decode cX12_feed 55 = .ok (.if_icmp .ge 7, 3) := by decide +kernel
theorem dX12_feed_58 : decode cX12_feed 58 = .ok (.iload_n 3, 1) := by decide +kernel
theorem dX12_feed_59 : decode cX12_feed 59 = .ok (.goto 17, 3) := by decide +kernel
theorem dX12_feed_62 : decode cX12_feed 62 = .ok (.iload 6, 2) := by decide +kernel
theorem dX12_feed_64 : decode cX12_feed 64 = .ok (.bipush 16, 2) := by decide +kernel
theorem dX12_feed_66 : decode cX12_feed 66 = .ok (.if_icmp .ge 8, 3) := by decide +kernel
theorem dX12_feed_69 : decode cX12_feed 69 = .ok (.iload 4, 2) := by decide +kernel
theorem dX12_feed_71 : decode cX12_feed 71 = .ok (.goto 5, 3) := by decide +kernel
theorem dX12_feed_74 : decode cX12_feed 74 = .ok (.iload 5, 2) := by decide +kernel
theorem dX12_feed_76 : decode cX12_feed 76 = .ok (.istore 7, 2) := by decide +kernel
theorem dX12_feed_78 : decode cX12_feed 78 = .ok (.aload_n 0, 1) := by decide +kernel
theorem dX12_feed_79 : decode cX12_feed 79 = .ok (.getfield 22, 3) := by decide +kernel
theorem dX12_feed_82 : decode cX12_feed 82 = .ok (.aload_n 0, 1) := by decide +kernel
theorem dX12_feed_83 : decode cX12_feed 83 = .ok (.getfield 76, 3) := by decide +kernel
theorem dX12_feed_86 : decode cX12_feed 86 = .ok (.iload 7, 2) := by decide +kernel
theorem dX12_feed_88 : decode cX12_feed 88 = .ok (.bipush 24, 2) := by decide +kernel
theorem dX12_feed_90 : decode cX12_feed 90 = .ok (.bipush 8, 2) := by decide +kernel
theorem dX12_feed_92 : decode cX12_feed 92 = .ok (.iload 6, 2) := by decide +kernel
theorem dX12_feed_94 : decode cX12_feed 94 = .ok (.iconst 4, 1) := by decide +kernel
theorem dX12_feed_95 : decode cX12_feed 95 = .ok (.irem, 1) := by decide +kernel
theorem dX12_feed_96 : decode cX12_feed 96 = .ok (.imul, 1) := by decide +kernel
theorem dX12_feed_97 : decode cX12_feed 97 = .ok (.isub, 1) := by decide +kernel
theorem dX12_feed_98 : decode cX12_feed 98 = .ok (.iushr, 1) := by decide +kernel
theorem dX12_feed_99 : decode cX12_feed 99 = .ok (.sipush 255, 3) := by decide +kernel
theorem dX12_feed_102 : decode cX12_feed 102 = .ok (.iand, 1) := by decide +kernel
theorem dX12_feed_103 : decode cX12_feed 103 = .ok (.iastore, 1) := by decide +kernel
theorem dX12_feed_104 : decode cX12_feed 104 = .ok (.aload_n 0, 1) := by decide +kernel
theorem dX12_feed_105 : decode cX12_feed 105 = .ok (.dup, 1) := by decide +kernel
theorem dX12_feed_106 : decode cX12_feed 106 = .ok (.getfield 76, 3) := by decide +kernel
theorem dX12_feed_109 : decode cX12_feed 109 = .ok (.iconst 1, 1) := by decide +kernel
theorem dX12_feed_110 : decode cX12_feed 110 = .ok (.iadd, 1) := by decide +kernel
theorem dX12_feed_111 : decode cX12_feed 111 = .ok (.putfield 76, 3) := by decide +kernel
theorem dX12_feed_114 : decode cX12_feed 114 = .ok (.iinc 6 1, 3) := by decide +kernel
theorem dX12_feed_117 : decode cX12_feed 117 = .ok (.goto (-94), 3) := by decide +kernel
theorem dX12_feed_120 : decode cX12_feed 120 = .ok (.aload_n 0, 1) := by decide +kernel
theorem dX12_feed_121 : decode cX12_feed 121 = .ok (.getfield 76, 3) := by decide +kernel
theorem dX12_feed_124 : decode cX12_feed 124 = .ok (.ireturn, 1) := by decide +kernel
theorem dX12_end_0 : decode cX12_end 0 = .ok (.aload_n 0, 1) := by decide +kernel
theorem dX12_end_1 : decode cX12_end 1 = .ok (.iconst 0, 1) := by decide +kernel
theorem dX12_end_2 : decode cX12_end 2 = .ok (.putfield 51, 3) := by decide +kernel
theorem dX12_end_5 : decode cX12_end 5 = .ok (.iload_n 1, 1) := by decide +kernel
theorem dX12_end_6 : decode cX12_end 6 = .ok (.iconst 0, 1) := by decide +kernel
theorem dX12_end_7 : decode cX12_end 7 = .ok (.aload_n 0, 1) := by decide +kernel
theorem dX12_end_8 : decode cX12_end 8 = .ok (.getfield 76, 3) := by decide +kernel
theorem dX12_end_11 : decode cX12_end 11 = .ok (.invokestatic 54, 3) := by decide +kernel
theorem dX12_end_14 : decode cX12_end 14 = .ok (.ifCond .ne 5, 3) := by decide +kernel
theorem dX12_end_17 : decode cX12_end 17 = .ok (.iconst 0, 1) := by decide +kernel
theorem dX12_end_18 : decode cX12_end 18 = .ok (.ireturn, 1) := by decide +kernel
theorem dX12_end_19 : decode cX12_end 19 = .ok (.aload_n 0, 1) := by decide +kernel
theorem dX12_end_20 : decode cX12_end 20 = .ok (.iload_n 1, 1) := by decide +kernel
theorem dX12_end_21 : decode cX12_end 21 = .ok (.putfield 76, 3) := by decide +kernel
theorem dX12_end_24 : decode cX12_end 24 = .ok (.iconst 1, 1) := by decide +kernel
theorem dX12_end_25 : decode cX12_end 25 = .ok (.ireturn, 1) := by decide +kernel
theorem dX12_letter_0 : decode cX12_letter 0 = .ok (.aload_n 0, 1) := by decide +kernel
theorem dX12_letter_1 : decode cX12_letter 1 = .ok (.getfield 79, 3) := by decide +kernel
theorem dX12_letter_4 : decode cX12_letter 4 = .ok (.iconst (-1), 1) := by decide +kernel
theorem dX12_letter_5 : decode cX12_letter 5 = .ok (.if_icmp .ne 12, 3) := by decide +kernel
theorem dX12_letter_8 : decode cX12_letter 8 = .ok (.aload_n 0, 1) := by decide +kernel
theorem dX12_letter_9 : decode cX12_letter 9 = .ok (.getfield 22, 3) := by decide +kernel
theorem dX12_letter_12 : decode cX12_letter 12 = .ok (.iload_n 1, 1) := by decide +kernel
theorem dX12_letter_13 : decode cX12_letter 13 = .ok (.iaload, 1) := by decide +kernel
theorem dX12_letter_14 : decode cX12_letter 14 = .ok (.goto 14, 3) := by decide +kernel
theorem dX12_letter_17 : decode cX12_letter 17 = .ok (.aload_n 0, 1) := by decide +kernel
theorem dX12_letter_18 : decode cX12_letter 18 = .ok (.getfield 7, 3) := by decide +kernel
theorem dX12_letter_21 : decode cX12_letter 21 = .ok (.aload_n 0, 1) := by decide +kernel
theorem dX12_letter_22 : decode cX12_letter 22 = .ok (.getfield 79, 3) := by decide +kernel
theorem dX12_letter_25 : decode cX12_letter 25 = .ok (.iload_n 1, 1) := by decide +kernel
theorem dX12_letter_26 : decode cX12_letter 26 = .ok (.iadd, 1) := by decide +kernel
theorem dX12_letter_27 : decode cX12_letter 27 = .ok (.iaload, 1) := by decide +kernel
theorem dX12_letter_28 : decode cX12_letter 28 = .ok (.ireturn, 1) := by decide +kernel
theorem dX12_skip_0 : decode cX12_skip 0 = .ok (.aload_n 0, 1) := by decide +kernel
theorem dX12_skip_1 : decode cX12_skip 1 = .ok (.getfield 82, 3) := by decide +kernel
theorem dX12_skip_4 : decode cX12_skip 4 = .ok (.aload_n 0, 1) := by decide +kernel
theorem dX12_skip_5 : decode cX12_skip 5 = .ok (.getfield 85, 3) := by decide +kernel
theorem dX12_skip_8 : decode cX12_skip 8 = .ok (.if_icmp .ge 29, 3) := by decide +kernel
theorem dX12_skip_11 : decode cX12_skip 11 = .ok (.aload_n 0, 1) := by decide +kernel
theorem dX12_skip_12 : decode cX12_skip 12 = .ok (.aload_n 0, 1) := by decide +kernel
theorem dX12_skip_13 : decode cX12_skip 13 = .ok (.getfield 82, 3) := by decide +kernel
theorem dX12_skip_16 : decode cX12_skip 16 = .ok (.invokevirtual 88, 3) := by decide +kernel
theorem dX12_skip_19 : decode cX12_skip 19 = .ok (.bipush 32, 2) := by decide +kernel
theorem dX12_skip_21 : decode cX12_skip 21 = .ok (.if_icmp .ne 16, 3) := by decide +kernel
theorem dX12_skip_24 : decode cX12_skip 24 = .ok (.aload_n 0, 1) := by decide +kernel
theorem dX12_skip_25 : decode cX12_skip 25 = .ok (.dup, 1) := by decide +kernel
theorem dX12_skip_26 : decode cX12_skip 26 = .ok (.getfield 82, 3) := by decide +kernel
theorem dX12_skip_29 : decode cX12_skip 29 = .ok (.iconst 1, 1) := by decide +kernel
theorem dX12_skip_30 : decode cX12_skip 30 = .ok (.iadd, 1) := by decide +kernel
theorem dX12_skip_31 : decode cX12_skip 31 = .ok (.putfield 82, 3) := by decide +kernel
theorem dX12_skip_34 : decode cX12_skip 34 = .ok (.goto (-34), 3) := by decide +kernel
theorem dX12_skip_37 : decode cX12_skip 37 = .ok (.return_, 1) := by decide +kernel
theorem dX12_isSign_0 : decode cX12_isSign 0 = .ok (.aload_n 0, 1) := by decide +kernel
theorem dX12_isSign_1 : decode cX12_isSign 1 = .ok (.invokevirtual 91, 3) := by decide +kernel
theorem dX12_isSign_4 : decode cX12_isSign 4 = .ok (.aload_n 0, 1) := by decide +kernel
theorem dX12_isSign_5 : decode cX12_isSign 5 = .ok (.getfield 82, 3) := by decide +kernel
theorem dX12_isSign_8 : decode cX12_isSign 8 = .ok (.aload_n 0, 1) := by decide +kernel
theorem dX12_isSign_9 : decode cX12_isSign 9 = .ok (.getfield 85, 3) := by decide +kernel
theorem dX12_isSign_12 : decode cX12_isSign 12 = .ok (.if_icmp .ge 19, 3) := by decide +kernel
theorem dX12_isSign_15 : decode cX12_isSign 15 = .ok (.aload_n 0, 1) := by decide +kernel
theorem dX12_isSign_16 : decode cX12_isSign 16 = .ok (.aload_n 0, 1) := by decide +kernel
theorem dX12_isSign_17 : decode cX12_isSign 17 = .ok (.getfield 82, 3) := by decide +kernel
theorem dX12_isSign_20 : decode cX12_isSign 20 = .ok (.invokevirtual 88, 3) := by decide +kernel
theorem dX12_isSign_23 : decode cX12_isSign 23 = .ok (.iload_n 1, 1) := by decide +kernel
theorem dX12_isSign_24 : decode cX12_isSign 24 = .ok (.if_icmp .ne 7, 3) := by decide +kernel
theorem dX12_isSign_27 : decode cX12_isSign 27 = .ok (.iconst 1, 1) := by decide +kernel
theorem dX12_isSign_28 : decode cX12_isSign 28 = .ok (.goto 4, 3) := by decide +kernel
theorem dX12_isSign_31 : decode cX12_isSign 31 = .ok (.iconst 0, 1) := by decide +kernel
theorem dX12_isSign_32 : decode cX12_isSign 32 = .ok (.ireturn, 1) := by decide +kernel
theorem dX12_says_0 : decode cX12_says 0 = .ok (.aload_n 0, 1) := by decide +kernel
theorem dX12_says_1 : decode cX12_says 1 = .ok (.invokevirtual 91, 3) := by decide +kernel
theorem dX12_says_4 : decode cX12_says 4 = .ok (.aload_n 0, 1) := by decide +kernel
theorem dX12_says_5 : decode cX12_says 5 = .ok (.getfield 82, 3) := by decide +kernel
theorem dX12_says_8 : decode cX12_says 8 = .ok (.istore_n 2, 1) := by decide +kernel
theorem dX12_says_9 : decode cX12_says 9 = .ok (.iload_n 2, 1) := by decide +kernel
theorem dX12_says_10 : decode cX12_says 10 = .ok (.aload_n 0, 1) := by decide +kernel
theorem dX12_says_11 : decode cX12_says 11 = .ok (.getfield 85, 3) := by decide +kernel
theorem dX12_says_14 : decode cX12_says 14 = .ok (.if_icmp .ge 24, 3) := by decide +kernel
theorem dX12_says_17 : decode cX12_says 17 = .ok (.aload_n 0, 1) := by decide +kernel
theorem dX12_says_18 : decode cX12_says 18 = .ok (.iload_n 2, 1) := by decide +kernel
theorem dX12_says_19 : decode cX12_says 19 = .ok (.invokevirtual 88, 3) := by decide +kernel
theorem dX12_says_22 : decode cX12_says 22 = .ok (.bipush 97, 2) := by decide +kernel
theorem dX12_says_24 : decode cX12_says 24 = .ok (.bipush 122, 2) := by decide +kernel
theorem dX12_says_26 : decode cX12_says 26 = .ok (.invokestatic 54, 3) := by decide +kernel
theorem dX12_says_29 : decode cX12_says 29 = .ok (.ifCond .eq 9, 3) := by decide +kernel
theorem dX12_says_32 : decode cX12_says 32 = .ok (.iinc 2 1, 3) := by decide +kernel
theorem dX12_says_35 : decode cX12_says 35 = .ok (.goto (-26), 3) := by decide +kernel
theorem dX12_says_38 : decode cX12_says 38 = .ok (.iload_n 2, 1) := by decide +kernel
theorem dX12_says_39 : decode cX12_says 39 = .ok (.aload_n 0, 1) := by decide +kernel
theorem dX12_says_40 : decode cX12_says 40 = .ok (.getfield 82, 3) := by decide +kernel
theorem dX12_says_43 : decode cX12_says 43 = .ok (.isub, 1) := by decide +kernel
theorem dX12_says_44 : decode cX12_says 44 = .ok (.aload_n 1, 1) := by decide +kernel
theorem dX12_says_45 : decode cX12_says 45 = .ok (.invokevirtual 94, 3) := by decide +kernel
theorem dX12_says_48 : decode cX12_says 48 = .ok (.if_icmp .eq 5, 3) := by decide +kernel
theorem dX12_says_51 : decode cX12_says 51 = .ok (.iconst 0, 1) := by decide +kernel
theorem dX12_says_52 : decode cX12_says 52 = .ok (.ireturn, 1) := by decide +kernel
theorem dX12_says_53 : decode cX12_says 53 = .ok (.iconst 0, 1) := by decide +kernel
theorem dX12_says_54 : decode cX12_says 54 = .ok (.istore_n 3, 1) := by decide +kernel
theorem dX12_says_55 : decode cX12_says 55 = .ok (.iload_n 3, 1) := by decide +kernel
theorem dX12_says_56 : decode cX12_says 56 = .ok (.aload_n 1, 1) := by decide +kernel
theorem dX12_says_57 : decode cX12_says 57 = .ok (.invokevirtual 94, 3) := by decide +kernel
theorem dX12_says_60 : decode cX12_says 60 = .ok (.if_icmp .ge 29, 3) := by decide +kernel
theorem dX12_says_63 : decode cX12_says 63 = .ok (.aload_n 0, 1) := by decide +kernel
theorem dX12_says_64 : decode cX12_says 64 = .ok (.aload_n 0, 1) := by decide +kernel
theorem dX12_says_65 : decode cX12_says 65 = .ok (.getfield 82, 3) := by decide +kernel
theorem dX12_says_68 : decode cX12_says 68 = .ok (.iload_n 3, 1) := by decide +kernel
theorem dX12_says_69 : decode cX12_says 69 = .ok (.iadd, 1) := by decide +kernel
theorem dX12_says_70 : decode cX12_says 70 = .ok (.invokevirtual 88, 3) := by decide +kernel
theorem dX12_says_73 : decode cX12_says 73 = .ok (.aload_n 1, 1) := by decide +kernel
theorem dX12_says_74 : decode cX12_says 74 = .ok (.iload_n 3, 1) := by decide +kernel
theorem dX12_says_75 : decode cX12_says 75 = .ok (.invokevirtual 100, 3) := by decide +kernel
theorem dX12_says_78 : decode cX12_says 78 = .ok (.if_icmp .eq 5, 3) := by decide +kernel
theorem dX12_says_81 : decode cX12_says 81 = .ok (.iconst 0, 1) := by decide +kernel
theorem dX12_says_82 : decode cX12_says 82 = .ok (.ireturn, 1) := by decide +kernel
theorem dX12_says_83 : decode cX12_says 83 = .ok (.iinc 3 1, 3) := by decide +kernel
theorem dX12_says_86 : decode cX12_says 86 = .ok (.goto (-31), 3) := by decide +kernel
theorem dX12_says_89 : decode cX12_says 89 = .ok (.aload_n 0, 1) := by decide +kernel
theorem dX12_says_90 : decode cX12_says 90 = .ok (.iload_n 2, 1) := by decide +kernel
theorem dX12_says_91 : decode cX12_says 91 = .ok (.putfield 82, 3) := by decide +kernel
theorem dX12_says_94 : decode cX12_says 94 = .ok (.iconst 1, 1) := by decide +kernel
theorem dX12_says_95 : decode cX12_says 95 = .ok (.ireturn, 1) := by decide +kernel
theorem dX12_wrong_0 : decode cX12_wrong 0 = .ok (.aload_n 0, 1) := by decide +kernel
theorem dX12_wrong_1 : decode cX12_wrong 1 = .ok (.getfield 25, 3) := by decide +kernel
theorem dX12_wrong_4 : decode cX12_wrong 4 = .ok (.iconst (-1), 1) := by decide +kernel
theorem dX12_wrong_5 : decode cX12_wrong 5 = .ok (.if_icmp .ne 8, 3) := by decide +kernel
theorem dX12_wrong_8 : decode cX12_wrong 8 = .ok (.aload_n 0, 1) := by decide +kernel
theorem dX12_wrong_9 : decode cX12_wrong 9 = .ok (.iload_n 1, 1) := by decide +kernel
theorem dX12_wrong_10 : decode cX12_wrong 10 = .ok (.putfield 25, 3) := by decide +kernel
theorem dX12_wrong_13 : decode cX12_wrong 13 = .ok (.return_, 1) := by decide +kernel
theorem dX12_place_0 : decode cX12_place 0 = .ok (.aload_n 0, 1) := by decide +kernel
theorem dX12_place_1 : decode cX12_place 1 = .ok (.invokevirtual 91, 3) := by decide +kernel
theorem dX12_place_4 : decode cX12_place 4 = .ok (.aload_n 0, 1) := by decide +kernel
theorem dX12_place_5 : decode cX12_place 5 = .ok (.getfield 82, 3) := by decide +kernel
theorem dX12_place_8 : decode cX12_place 8 = .ok (.ireturn, 1) := by decide +kernel
theorem dX12_figures_0 : decode cX12_figures 0 = .ok (.aload_n 0, 1) := by decide +kernel
theorem dX12_figures_1 : decode cX12_figures 1 = .ok (.getfield 25, 3) := by decide +kernel
theorem dX12_figures_4 : decode cX12_figures 4 = .ok (.iconst (-1), 1) := by decide +kernel
theorem dX12_figures_5 : decode cX12_figures 5 = .ok (.if_icmp .eq 5, 3) := by decide +kernel
theorem dX12_figures_8 : decode cX12_figures 8 = .ok (.iconst 0, 1) := by decide +kernel
theorem dX12_figures_9 : decode cX12_figures 9 = .ok (.ireturn, 1) := by decide +kernel
theorem dX12_figures_10 : decode cX12_figures 10 = .ok (.aload_n 0, 1) := by decide +kernel
theorem dX12_figures_11 : decode cX12_figures 11 = .ok (.invokevirtual 104, 3) := by decide +kernel
theorem dX12_figures_14 : decode cX12_figures 14 = .ok (.istore_n 3, 1) := by decide +kernel
theorem dX12_figures_15 : decode cX12_figures 15 = .ok (.iconst 0, 1) := by decide +kernel
theorem dX12_figures_16 : decode cX12_figures 16 = .ok (.istore 4, 2) := by decide +kernel
theorem dX12_figures_18 : decode cX12_figures 18 = .ok (.aload_n 0, 1) := by decide +kernel
theorem dX12_figures_19 : decode cX12_figures 19 = .ok (.getfield 82, 3) := by decide +kernel
theorem dX12_figures_22 : decode cX12_figures 22 = .ok (.aload_n 0, 1) := by decide +kernel
theorem dX12_figures_23 : decode cX12_figures 23 = .ok (.getfield 85, 3) := by decide +kernel
theorem dX12_figures_26 : decode cX12_figures 26 = .ok (.if_icmp .ge 63, 3) := by decide +kernel
theorem dX12_figures_29 : decode cX12_figures 29 = .ok (.aload_n 0, 1) := by decide +kernel
theorem dX12_figures_30 : decode cX12_figures 30 = .ok (.aload_n 0, 1) := by decide +kernel
theorem dX12_figures_31 : decode cX12_figures 31 = .ok (.getfield 82, 3) := by decide +kernel
theorem dX12_figures_34 : decode cX12_figures 34 = .ok (.invokevirtual 88, 3) := by decide +kernel
theorem dX12_figures_37 : decode cX12_figures 37 = .ok (.bipush 48, 2) := by decide +kernel
theorem dX12_figures_39 : decode cX12_figures 39 = .ok (.bipush 57, 2) := by decide +kernel
theorem dX12_figures_41 : decode cX12_figures 41 = .ok (.invokestatic 54, 3) := by decide +kernel
theorem dX12_figures_44 : decode cX12_figures 44 = .ok (.ifCond .eq 45, 3) := by decide +kernel
theorem dX12_figures_47 : decode cX12_figures 47 = .ok (.aload_n 0, 1) := by decide +kernel
theorem dX12_figures_48 : decode cX12_figures 48 = .ok (.getfield 82, 3) := by decide +kernel
theorem dX12_figures_51 : decode cX12_figures 51 = .ok (.iload_n 3, 1) := by decide +kernel
theorem dX12_figures_52 : decode cX12_figures 52 = .ok (.isub, 1) := by decide +kernel
theorem dX12_figures_53 : decode cX12_figures 53 = .ok (.iconst 3, 1) := by decide +kernel
theorem dX12_figures_54 : decode cX12_figures 54 = .ok (.if_icmp .gt 35, 3) := by decide +kernel
theorem dX12_figures_57 : decode cX12_figures 57 = .ok (.bipush 10, 2) := by decide +kernel
theorem dX12_figures_59 : decode cX12_figures 59 = .ok (.iload 4, 2) := by decide +kernel
theorem dX12_figures_61 : decode cX12_figures 61 = .ok (.imul, 1) := by decide +kernel
theorem dX12_figures_62 : decode cX12_figures 62 = .ok (.aload_n 0, 1) := by decide +kernel
theorem dX12_figures_63 : decode cX12_figures 63 = .ok (.aload_n 0, 1) := by decide +kernel
theorem dX12_figures_64 : decode cX12_figures 64 = .ok (.getfield 82, 3) := by decide +kernel
theorem dX12_figures_67 : decode cX12_figures 67 = .ok (.invokevirtual 88, 3) := by decide +kernel
theorem dX12_figures_70 : decode cX12_figures 70 = .ok (.iadd, 1) := by decide +kernel
theorem dX12_figures_71 : decode cX12_figures 71 = .ok (.bipush 48, 2) := by decide +kernel
theorem dX12_figures_73 : decode cX12_figures 73 = .ok (.isub, 1) := by decide +kernel
theorem dX12_figures_74 : decode cX12_figures 74 = .ok (.istore 4, 2) := by decide +kernel
theorem dX12_figures_76 : decode cX12_figures 76 = .ok (.aload_n 0, 1) := by decide +kernel
theorem dX12_figures_77 : decode cX12_figures 77 = .ok (.dup, 1) := by decide +kernel
theorem dX12_figures_78 : decode cX12_figures 78 = .ok (.getfield 82, 3) := by decide +kernel
theorem dX12_figures_81 : decode cX12_figures 81 = .ok (.iconst 1, 1) := by decide +kernel
theorem dX12_figures_82 : decode cX12_figures 82 = .ok (.iadd, 1) := by decide +kernel
theorem dX12_figures_83 : decode cX12_figures 83 = .ok (.putfield 82, 3) := by decide +kernel
theorem dX12_figures_86 : decode cX12_figures 86 = .ok (.goto (-68), 3) := by decide +kernel
theorem dX12_figures_89 : decode cX12_figures 89 = .ok (.aload_n 0, 1) := by decide +kernel
theorem dX12_figures_90 : decode cX12_figures 90 = .ok (.getfield 82, 3) := by decide +kernel
theorem dX12_figures_93 : decode cX12_figures 93 = .ok (.iload_n 3, 1) := by decide +kernel
theorem dX12_figures_94 : decode cX12_figures 94 = .ok (.if_icmp .eq 25, 3) := by decide +kernel
theorem dX12_figures_97 : decode cX12_figures 97 = .ok (.aload_n 0, 1) := by decide +kernel
theorem dX12_figures_98 : decode cX12_figures 98 = .ok (.getfield 82, 3) := by decide +kernel
theorem dX12_figures_101 : decode cX12_figures 101 = .ok (.iload_n 3, 1) := by decide +kernel
theorem dX12_figures_102 : decode cX12_figures 102 = .ok (.isub, 1) := by decide +kernel
theorem dX12_figures_103 : decode cX12_figures 103 = .ok (.iconst 3, 1) := by decide +kernel
theorem dX12_figures_104 : decode cX12_figures 104 = .ok (.if_icmp .gt 15, 3) := by decide +kernel
theorem dX12_figures_107 : decode cX12_figures 107 = .ok (.iload 4, 2) := by decide +kernel
theorem dX12_figures_109 : decode cX12_figures 109 = .ok (.iload_n 1, 1) := by decide +kernel
theorem dX12_figures_110 : decode cX12_figures 110 = .ok (.if_icmp .lt 9, 3) := by decide +kernel
theorem dX12_figures_113 : decode cX12_figures 113 = .ok (.iload 4, 2) := by decide +kernel
theorem dX12_figures_115 : decode cX12_figures 115 = .ok (.iload_n 2, 1) := by decide +kernel
theorem dX12_figures_116 : decode cX12_figures 116 = .ok (.if_icmp .le 8, 3) := by decide +kernel
theorem dX12_figures_119 : decode cX12_figures 119 = .ok (.aload_n 0, 1) := by decide +kernel
theorem dX12_figures_120 : decode cX12_figures 120 = .ok (.iload_n 3, 1) := by decide +kernel
theorem dX12_figures_121 : decode cX12_figures 121 = .ok (.invokevirtual 107, 3) := by decide +kernel
theorem dX12_figures_124 : decode cX12_figures 124 = .ok (.iload 4, 2) := by decide +kernel
theorem dX12_figures_126 : decode cX12_figures 126 = .ok (.ireturn, 1) := by decide +kernel
theorem dX12_after_0 : decode cX12_after 0 = .ok (.aload_n 0, 1) := by decide +kernel
theorem dX12_after_1 : decode cX12_after 1 = .ok (.getfield 25, 3) := by decide +kernel
theorem dX12_after_4 : decode cX12_after 4 = .ok (.iconst (-1), 1) := by decide +kernel
theorem dX12_after_5 : decode cX12_after 5 = .ok (.if_icmp .ne 19, 3) := by decide +kernel
theorem dX12_after_8 : decode cX12_after 8 = .ok (.aload_n 0, 1) := by decide +kernel
theorem dX12_after_9 : decode cX12_after 9 = .ok (.aload_n 1, 1) := by decide +kernel
theorem dX12_after_10 : decode cX12_after 10 = .ok (.invokevirtual 111, 3) := by decide +kernel
theorem dX12_after_13 : decode cX12_after 13 = .ok (.ifCond .ne 11, 3) := by decide +kernel
theorem dX12_after_16 : decode cX12_after 16 = .ok (.aload_n 0, 1) := by decide +kernel
theorem dX12_after_17 : decode cX12_after 17 = .ok (.aload_n 0, 1) := by decide +kernel
theorem dX12_after_18 : decode cX12_after 18 = .ok (.getfield 82, 3) := by decide +kernel
theorem dX12_after_21 : decode cX12_after 21 = .ok (.invokevirtual 107, 3) := by decide +kernel
theorem dX12_after_24 : decode cX12_after 24 = .ok (.aload_n 0, 1) := by decide +kernel
theorem dX12_after_25 : decode cX12_after 25 = .ok (.iload_n 2, 1) := by decide +kernel
theorem dX12_after_26 : decode cX12_after 26 = .ok (.iload_n 3, 1) := by decide +kernel
theorem dX12_after_27 : decode cX12_after 27 = .ok (.invokevirtual 115, 3) := by decide +kernel
theorem dX12_after_30 : decode cX12_after 30 = .ok (.ireturn, 1) := by decide +kernel
theorem dX12_who_0 : decode cX12_who 0 = .ok (.aload_n 0, 1) := by decide +kernel
theorem dX12_who_1 : decode cX12_who 1 = .ok (.iconst 0, 1) := by decide +kernel
theorem dX12_who_2 : decode cX12_who 2 = .ok (.aload_n 0, 1) := by decide +kernel
theorem dX12_who_3 : decode cX12_who 3 = .ok (.getfield 7, 3) := by decide +kernel
theorem dX12_who_6 : decode cX12_who 6 = .ok (.iconst 3, 1) := by decide +kernel
theorem dX12_who_7 : decode cX12_who 7 = .ok (.iaload, 1) := by decide +kernel
theorem dX12_who_8 : decode cX12_who 8 = .ok (.iconst 1, 1) := by decide +kernel
theorem dX12_who_9 : decode cX12_who 9 = .ok (.isub, 1) := by decide +kernel
theorem dX12_who_10 : decode cX12_who 10 = .ok (.invokevirtual 115, 3) := by decide +kernel
theorem dX12_who_13 : decode cX12_who 13 = .ok (.ireturn, 1) := by decide +kernel
theorem dX12_other_0 : decode cX12_other 0 = .ok (.aload_n 0, 1) := by decide +kernel
theorem dX12_other_1 : decode cX12_other 1 = .ok (.invokevirtual 104, 3) := by decide +kernel
theorem dX12_other_4 : decode cX12_other 4 = .ok (.istore_n 2, 1) := by decide +kernel
theorem dX12_other_5 : decode cX12_other 5 = .ok (.aload_n 0, 1) := by decide +kernel
theorem dX12_other_6 : decode cX12_other 6 = .ok (.invokevirtual 118, 3) := by decide +kernel
theorem dX12_other_9 : decode cX12_other 9 = .ok (.istore_n 3, 1) := by decide +kernel
theorem dX12_other_10 : decode cX12_other 10 = .ok (.aload_n 0, 1) := by decide +kernel
theorem dX12_other_11 : decode cX12_other 11 = .ok (.getfield 25, 3) := by decide +kernel
theorem dX12_other_14 : decode cX12_other 14 = .ok (.iconst (-1), 1) := by decide +kernel
theorem dX12_other_15 : decode cX12_other 15 = .ok (.if_icmp .ne 13, 3) := by decide +kernel
theorem dX12_other_18 : decode cX12_other 18 = .ok (.iload_n 3, 1) := by decide +kernel
theorem dX12_other_19 : decode cX12_other 19 = .ok (.iload_n 1, 1) := by decide +kernel
theorem dX12_other_20 : decode cX12_other 20 = .ok (.if_icmp .ne 8, 3) := by decide +kernel
theorem dX12_other_23 : decode cX12_other 23 = .ok (.aload_n 0, 1) := by decide +kernel
theorem dX12_other_24 : decode cX12_other 24 = .ok (.iload_n 2, 1) := by decide +kernel
theorem dX12_other_25 : decode cX12_other 25 = .ok (.invokevirtual 107, 3) := by decide +kernel
theorem dX12_other_28 : decode cX12_other 28 = .ok (.iload_n 3, 1) := by decide +kernel
theorem dX12_other_29 : decode cX12_other 29 = .ok (.ireturn, 1) := by decide +kernel
theorem dX12_likings_0 : decode cX12_likings 0 = .ok (.aload_n 0, 1) := by decide +kernel
theorem dX12_likings_1 : decode cX12_likings 1 = .ok (.invokevirtual 118, 3) := by decide +kernel
theorem dX12_likings_4 : decode cX12_likings 4 = .ok (.istore_n 1, 1) := by decide +kernel
theorem dX12_likings_5 : decode cX12_likings 5 = .ok (.aload_n 0, 1) := by decide +kernel
theorem dX12_likings_6 : decode cX12_likings 6 = .ok (.getfield 25, 3) := by decide +kernel
theorem dX12_likings_9 : decode cX12_likings 9 = .ok (.iconst (-1), 1) := by decide +kernel
theorem dX12_likings_10 : decode cX12_likings 10 = .ok (.if_icmp .eq 4, 3) := by decide +kernel
theorem dX12_likings_13 : decode cX12_likings 13 = .ok (.return_, 1) := by decide +kernel
theorem dX12_likings_14 : decode cX12_likings 14 = .ok (.aload_n 0, 1) := by decide +kernel
theorem dX12_likings_15 : decode cX12_likings 15 = .ok (.invokevirtual 104, 3) := by decide +kernel
theorem dX12_likings_18 : decode cX12_likings 18 = .ok (.istore_n 2, 1) := by decide +kernel
theorem dX12_likings_19 : decode cX12_likings 19 = .ok (.iconst 0, 1) := by decide +kernel
theorem dX12_likings_20 : decode cX12_likings 20 = .ok (.istore_n 3, 1) := by decide +kernel
theorem dX12_likings_21 : decode cX12_likings 21 = .ok (.aload_n 0, 1) := by decide +kernel
theorem dX12_likings_22 : decode cX12_likings 22 = .ok (.getfield 82, 3) := by decide +kernel
theorem dX12_likings_25 : decode cX12_likings 25 = .ok (.iload_n 3, 1) := by decide +kernel
theorem dX12_likings_26 : decode cX12_likings 26 = .ok (.iadd, 1) := by decide +kernel
theorem dX12_likings_27 : decode cX12_likings 27 = .ok (.aload_n 0, 1) := by decide +kernel
theorem dX12_likings_28 : decode cX12_likings 28 = .ok (.getfield 85, 3) := by decide +kernel
theorem dX12_likings_31 : decode cX12_likings 31 = .ok (.if_icmp .ge 29, 3) := by decide +kernel
theorem dX12_likings_34 : decode cX12_likings 34 = .ok (.aload_n 0, 1) := by decide +kernel
theorem dX12_likings_35 : decode cX12_likings 35 = .ok (.aload_n 0, 1) := by decide +kernel
theorem dX12_likings_36 : decode cX12_likings 36 = .ok (.getfield 82, 3) := by decide +kernel
theorem dX12_likings_39 : decode cX12_likings 39 = .ok (.iload_n 3, 1) := by decide +kernel
theorem dX12_likings_40 : decode cX12_likings 40 = .ok (.iadd, 1) := by decide +kernel
theorem dX12_likings_41 : decode cX12_likings 41 = .ok (.invokevirtual 88, 3) := by decide +kernel
theorem dX12_likings_44 : decode cX12_likings 44 = .ok (.bipush 48, 2) := by decide +kernel
theorem dX12_likings_46 : decode cX12_likings 46 = .ok (.bipush 57, 2) := by decide +kernel
theorem dX12_likings_48 : decode cX12_likings 48 = .ok (.invokestatic 54, 3) := by decide +kernel
theorem dX12_likings_51 : decode cX12_likings 51 = .ok (.ifCond .eq 9, 3) := by decide +kernel
theorem dX12_likings_54 : decode cX12_likings 54 = .ok (.iinc 3 1, 3) := by decide +kernel
theorem dX12_likings_57 : decode cX12_likings 57 = .ok (.goto (-36), 3) := by decide +kernel
theorem dX12_likings_60 : decode cX12_likings 60 = .ok (.iload_n 3, 1) := by decide +kernel
theorem dX12_likings_61 : decode cX12_likings 61 = .ok (.aload_n 0, 1) := by decide +kernel
theorem dX12_likings_62 : decode cX12_likings 62 = .ok (.getfield 7, 3) := by decide +kernel
theorem dX12_likings_65 : decode cX12_likings 65 = .ok (.iconst 3, 1) := by decide +kernel
theorem dX12_likings_66 : decode cX12_likings 66 = .ok (.iaload, 1) := by decide +kernel
theorem dX12_likings_67 : decode cX12_likings 67 = .ok (.if_icmp .eq 9, 3) := by decide +kernel
theorem dX12_likings_70 : decode cX12_likings 70 = .ok (.aload_n 0, 1) := by decide +kernel
theorem dX12_likings_71 : decode cX12_likings 71 = .ok (.iload_n 2, 1) := by decide +kernel
theorem dX12_likings_72 : decode cX12_likings 72 = .ok (.invokevirtual 107, 3) := by decide +kernel
theorem dX12_likings_75 : decode cX12_likings 75 = .ok (.return_, 1) := by decide +kernel
theorem dX12_likings_76 : decode cX12_likings 76 = .ok (.iconst 0, 1) := by decide +kernel
theorem dX12_likings_77 : decode cX12_likings 77 = .ok (.istore 4, 2) := by decide +kernel
theorem dX12_likings_79 : decode cX12_likings 79 = .ok (.iload 4, 2) := by decide +kernel
theorem dX12_likings_81 : decode cX12_likings 81 = .ok (.iload_n 3, 1) := by decide +kernel
theorem dX12_likings_82 : decode cX12_likings 82 = .ok (.if_icmp .ge 51, 3) := by decide +kernel
theorem dX12_likings_85 : decode cX12_likings 85 = .ok (.iload 4, 2) := by decide +kernel
theorem dX12_likings_87 : decode cX12_likings 87 = .ok (.iload_n 1, 1) := by decide +kernel
theorem dX12_likings_88 : decode cX12_likings 88 = .ok (.if_icmp .eq 29, 3) := by decide +kernel
theorem dX12_likings_91 : decode cX12_likings 91 = .ok (.aload_n 0, 1) := by decide +kernel
theorem dX12_likings_92 : decode cX12_likings 92 = .ok (.getfield 7, 3) := by decide +kernel
theorem dX12_likings_95 : decode cX12_likings 95 = .ok (.bipush 46, 2) := by decide +kernel
theorem dX12_likings_97 : decode cX12_likings 97 = .ok (.bipush 8, 2) := by decide +kernel
theorem dX12_likings_99 : decode cX12_likings 99 = .ok (.iload_n 1, 1) := by decide +kernel
theorem dX12_likings_100 : decode cX12_likings 100 = .ok (.imul, 1) := by decide +kernel
theorem dX12_likings_101 : decode cX12_likings 101 = .ok (.iadd, 1) := by decide +kernel
theorem dX12_likings_102 : decode cX12_likings 102 = .ok (.iload 4, 2) := by decide +kernel
theorem dX12_likings_104 : decode cX12_likings 104 = .ok (.iadd, 1) := by decide +kernel
theorem dX12_likings_105 : decode cX12_likings 105 = .ok (.aload_n 0, 1) := by decide +kernel
theorem dX12_likings_106 : decode cX12_likings 106 = .ok (.aload_n 0, 1) := by decide +kernel
theorem dX12_likings_107 : decode cX12_likings 107 = .ok (.getfield 82, 3) := by decide +kernel
theorem dX12_likings_110 : decode cX12_likings 110 = .ok (.invokevirtual 88, 3) := by decide +kernel
theorem dX12_likings_113 : decode cX12_likings 113 = .ok (.bipush 48, 2) := by decide +kernel
theorem dX12_likings_115 : decode cX12_likings 115 = .ok (.isub, 1) := by decide +kernel
theorem dX12_likings_116 : decode cX12_likings 116 = .ok (.iastore, 1) := by decide +kernel
theorem dX12_likings_117 : decode cX12_likings 117 = .ok (.aload_n 0, 1) := by decide +kernel
theorem dX12_likings_118 : decode cX12_likings 118 = .ok (.dup, 1) := by decide +kernel
theorem dX12_likings_119 : decode cX12_likings 119 = .ok (.getfield 82, 3) := by decide +kernel
theorem dX12_likings_122 : decode cX12_likings 122 = .ok (.iconst 1, 1) := by decide +kernel
theorem dX12_likings_123 : decode cX12_likings 123 = .ok (.iadd, 1) := by decide +kernel
theorem dX12_likings_124 : decode cX12_likings 124 = .ok (.putfield 82, 3) := by decide +kernel
theorem dX12_likings_127 : decode cX12_likings 127 = .ok (.iinc 4 1, 3) := by decide +kernel
theorem dX12_likings_130 : decode cX12_likings 130 = .ok (.goto (-51), 3) := by decide +kernel
theorem dX12_likings_133 : decode cX12_likings 133 = .ok (.return_, 1) := by decide +kernel
theorem dX12_free_0 : decode cX12_free 0 = .ok (.aload_n 0, 1) := by decide +kernel
theorem dX12_free_1 : decode cX12_free 1 = .ok (.getfield 25, 3) := by decide +kernel
theorem dX12_free_4 : decode cX12_free 4 = .ok (.iconst (-1), 1) := by decide +kernel
theorem dX12_free_5 : decode cX12_free 5 = .ok (.if_icmp .ne 17, 3) := by decide +kernel
theorem dX12_free_8 : decode cX12_free 8 = .ok (.aload_n 0, 1) := by decide +kernel
theorem dX12_free_9 : decode cX12_free 9 = .ok (.iload_n 1, 1) := by decide +kernel
theorem dX12_free_10 : decode cX12_free 10 = .ok (.invokevirtual 121, 3) := by decide +kernel
theorem dX12_free_13 : decode cX12_free 13 = .ok (.iconst (-1), 1) := by decide +kernel
theorem dX12_free_14 : decode cX12_free 14 = .ok (.if_icmp .eq 8, 3) := by decide +kernel
theorem dX12_free_17 : decode cX12_free 17 = .ok (.aload_n 0, 1) := by decide +kernel
theorem dX12_free_18 : decode cX12_free 18 = .ok (.iload_n 2, 1) := by decide +kernel
theorem dX12_free_19 : decode cX12_free 19 = .ok (.invokevirtual 107, 3) := by decide +kernel
theorem dX12_free_22 : decode cX12_free 22 = .ok (.return_, 1) := by decide +kernel
theorem dX12_wedLine_0 : decode cX12_wedLine 0 = .ok (.aload_n 0, 1) := by decide +kernel
theorem dX12_wedLine_1 : decode cX12_wedLine 1 = .ok (.getfield 7, 3) := by decide +kernel
theorem dX12_wedLine_4 : decode cX12_wedLine 4 = .ok (.iconst 4, 1) := by decide +kernel
theorem dX12_wedLine_5 : decode cX12_wedLine 5 = .ok (.iaload, 1) := by decide +kernel
theorem dX12_wedLine_6 : decode cX12_wedLine 6 = .ok (.bipush 20, 2) := by decide +kernel
theorem dX12_wedLine_8 : decode cX12_wedLine 8 = .ok (.if_icmp .ne 8, 3) := by decide +kernel
theorem dX12_wedLine_11 : decode cX12_wedLine 11 = .ok (.aload_n 0, 1) := by decide +kernel
theorem dX12_wedLine_12 : decode cX12_wedLine 12 = .ok (.iload_n 1, 1) := by decide +kernel
theorem dX12_wedLine_13 : decode cX12_wedLine 13 = .ok (.invokevirtual 107, 3) := by decide +kernel
theorem dX12_wedLine_16 : decode cX12_wedLine 16 = .ok (.aload_n 0, 1) := by decide +kernel
theorem dX12_wedLine_17 : decode cX12_wedLine 17 = .ok (.invokevirtual 104, 3) := by decide +kernel
theorem dX12_wedLine_20 : decode cX12_wedLine 20 = .ok (.istore_n 2, 1) := by decide +kernel
theorem dX12_wedLine_21 : decode cX12_wedLine 21 = .ok (.aload_n 0, 1) := by decide +kernel
theorem dX12_wedLine_22 : decode cX12_wedLine 22 = .ok (.invokevirtual 118, 3) := by decide +kernel
theorem dX12_wedLine_25 : decode cX12_wedLine 25 = .ok (.istore_n 3, 1) := by decide +kernel
theorem dX12_wedLine_26 : decode cX12_wedLine 26 = .ok (.aload_n 0, 1) := by decide +kernel
theorem dX12_wedLine_27 : decode cX12_wedLine 27 = .ok (.iload_n 3, 1) := by decide +kernel
theorem dX12_wedLine_28 : decode cX12_wedLine 28 = .ok (.iload_n 2, 1) := by decide +kernel
theorem dX12_wedLine_29 : decode cX12_wedLine 29 = .ok (.invokevirtual 124, 3) := by decide +kernel
theorem dX12_wedLine_32 : decode cX12_wedLine 32 = .ok (.aload_n 0, 1) := by decide +kernel
theorem dX12_wedLine_33 : decode cX12_wedLine 33 = .ok (.invokevirtual 104, 3) := by decide +kernel
theorem dX12_wedLine_36 : decode cX12_wedLine 36 = .ok (.istore_n 2, 1) := by decide +kernel
theorem dX12_wedLine_37 : decode cX12_wedLine 37 = .ok (.aload_n 0, 1) := by decide +kernel
theorem dX12_wedLine_38 : decode cX12_wedLine 38 = .ok (.iload_n 3, 1) := by decide +kernel
theorem dX12_wedLine_39 : decode cX12_wedLine 39 = .ok (.invokevirtual 128, 3) := by decide +kernel
theorem dX12_wedLine_42 : decode cX12_wedLine 42 = .ok (.istore 4, 2) := by decide +kernel
theorem dX12_wedLine_44 : decode cX12_wedLine 44 = .ok (.aload_n 0, 1) := by decide +kernel
theorem dX12_wedLine_45 : decode cX12_wedLine 45 = .ok (.iload 4, 2) := by decide +kernel
theorem dX12_wedLine_47 : decode cX12_wedLine 47 = .ok (.iload_n 2, 1) := by decide +kernel
theorem dX12_wedLine_48 : decode cX12_wedLine 48 = .ok (.invokevirtual 124, 3) := by decide +kernel
theorem dX12_wedLine_51 : decode cX12_wedLine 51 = .ok (.aload_n 0, 1) := by decide +kernel
theorem dX12_wedLine_52 : decode cX12_wedLine 52 = .ok (.ldc 131, 2) := by decide +kernel
theorem dX12_wedLine_54 : decode cX12_wedLine 54 = .ok (.iconst 0, 1) := by decide +kernel
theorem dX12_wedLine_55 : decode cX12_wedLine 55 = .ok (.bipush 99, 2) := by decide +kernel
theorem dX12_wedLine_57 : decode cX12_wedLine 57 = .ok (.invokevirtual 133, 3) := by decide +kernel
theorem dX12_wedLine_60 : decode cX12_wedLine 60 = .ok (.istore 5, 2) := by decide +kernel
theorem dX12_wedLine_62 : decode cX12_wedLine 62 = .ok (.aload_n 0, 1) := by decide +kernel
theorem dX12_wedLine_63 : decode cX12_wedLine 63 = .ok (.getfield 25, 3) := by decide +kernel
theorem dX12_wedLine_66 : decode cX12_wedLine 66 = .ok (.iconst (-1), 1) := by decide +kernel
theorem dX12_wedLine_67 : decode cX12_wedLine 67 = .ok (.if_icmp .ne 12, 3) := by decide +kernel
theorem dX12_wedLine_70 : decode cX12_wedLine 70 = .ok (.aload_n 0, 1) := by decide +kernel
theorem dX12_wedLine_71 : decode cX12_wedLine 71 = .ok (.iload_n 3, 1) := by decide +kernel
theorem dX12_wedLine_72 : decode cX12_wedLine 72 = .ok (.iload 4, 2) := by decide +kernel
theorem dX12_wedLine_74 : decode cX12_wedLine 74 = .ok (.iload 5, 2) := by decide +kernel
theorem dX12_wedLine_76 : decode cX12_wedLine 76 = .ok (.invokevirtual 137, 3) := by decide +kernel
theorem dX12_wedLine_79 : decode cX12_wedLine 79 = .ok (.return_, 1) := by decide +kernel
theorem dX12_comes_0 : decode cX12_comes 0 = .ok (.aload_n 0, 1) := by decide +kernel
theorem dX12_comes_1 : decode cX12_comes 1 = .ok (.getfield 7, 3) := by decide +kernel
theorem dX12_comes_4 : decode cX12_comes 4 = .ok (.iconst 4, 1) := by decide +kernel
theorem dX12_comes_5 : decode cX12_comes 5 = .ok (.iaload, 1) := by decide +kernel
theorem dX12_comes_6 : decode cX12_comes 6 = .ok (.istore 4, 2) := by decide +kernel
theorem dX12_comes_8 : decode cX12_comes 8 = .ok (.aload_n 0, 1) := by decide +kernel
theorem dX12_comes_9 : decode cX12_comes 9 = .ok (.iload 4, 2) := by decide +kernel
theorem dX12_comes_11 : decode cX12_comes 11 = .ok (.iconst 0, 1) := by decide +kernel
theorem dX12_comes_12 : decode cX12_comes 12 = .ok (.iload_n 1, 1) := by decide +kernel
theorem dX12_comes_13 : decode cX12_comes 13 = .ok (.invokevirtual 141, 3) := by decide +kernel
theorem dX12_comes_16 : decode cX12_comes 16 = .ok (.aload_n 0, 1) := by decide +kernel
theorem dX12_comes_17 : decode cX12_comes 17 = .ok (.iload 4, 2) := by decide +kernel
theorem dX12_comes_19 : decode cX12_comes 19 = .ok (.iconst 1, 1) := by decide +kernel
theorem dX12_comes_20 : decode cX12_comes 20 = .ok (.iload_n 2, 1) := by decide +kernel
theorem dX12_comes_21 : decode cX12_comes 21 = .ok (.invokevirtual 141, 3) := by decide +kernel
theorem dX12_comes_24 : decode cX12_comes 24 = .ok (.aload_n 0, 1) := by decide +kernel
theorem dX12_comes_25 : decode cX12_comes 25 = .ok (.iload 4, 2) := by decide +kernel
theorem dX12_comes_27 : decode cX12_comes 27 = .ok (.iconst 2, 1) := by decide +kernel
theorem dX12_comes_28 : decode cX12_comes 28 = .ok (.iload_n 3, 1) := by decide +kernel
theorem dX12_comes_29 : decode cX12_comes 29 = .ok (.invokevirtual 141, 3) := by decide +kernel
theorem dX12_comes_32 : decode cX12_comes 32 = .ok (.aload_n 0, 1) := by decide +kernel
theorem dX12_comes_33 : decode cX12_comes 33 = .ok (.iload 4, 2) := by decide +kernel
theorem dX12_comes_35 : decode cX12_comes 35 = .ok (.iconst 3, 1) := by decide +kernel
theorem dX12_comes_36 : decode cX12_comes 36 = .ok (.iconst 0, 1) := by decide +kernel
theorem dX12_comes_37 : decode cX12_comes 37 = .ok (.invokevirtual 141, 3) := by decide +kernel
theorem dX12_comes_40 : decode cX12_comes 40 = .ok (.aload_n 0, 1) := by decide +kernel
theorem dX12_comes_41 : decode cX12_comes 41 = .ok (.iload 4, 2) := by decide +kernel
theorem dX12_comes_43 : decode cX12_comes 43 = .ok (.iconst 4, 1) := by decide +kernel
theorem dX12_comes_44 : decode cX12_comes 44 = .ok (.iconst 0, 1) := by decide +kernel
theorem dX12_comes_45 : decode cX12_comes 45 = .ok (.invokevirtual 141, 3) := by decide +kernel
theorem dX12_comes_48 : decode cX12_comes 48 = .ok (.aload_n 0, 1) := by decide +kernel
theorem dX12_comes_49 : decode cX12_comes 49 = .ok (.getfield 7, 3) := by decide +kernel
theorem dX12_comes_52 : decode cX12_comes 52 = .ok (.iconst 4, 1) := by decide +kernel
theorem dX12_comes_53 : decode cX12_comes 53 = .ok (.dup2, 1) := by decide +kernel
theorem dX12_comes_54 : decode cX12_comes 54 = .ok (.iaload, 1) := by decide +kernel
theorem dX12_comes_55 : decode cX12_comes 55 = .ok (.iconst 1, 1) := by decide +kernel
theorem dX12_comes_56 : decode cX12_comes 56 = .ok (.iadd, 1) := by decide +kernel
theorem dX12_comes_57 : decode cX12_comes 57 = .ok (.iastore, 1) := by decide +kernel
theorem dX12_comes_58 : decode cX12_comes 58 = .ok (.return_, 1) := by decide +kernel
theorem dX12_personLine_0 : decode cX12_personLine 0 = .ok (.aload_n 0, 1) := by decide +kernel
theorem dX12_personLine_1 : decode cX12_personLine 1 = .ok (.getfield 7, 3) := by decide +kernel
theorem dX12_personLine_4 : decode cX12_personLine 4 = .ok (.iconst 3, 1) := by decide +kernel
theorem dX12_personLine_5 : decode cX12_personLine 5 = .ok (.iaload, 1) := by decide +kernel
theorem dX12_personLine_6 : decode cX12_personLine 6 = .ok (.bipush 8, 2) := by decide +kernel
theorem dX12_personLine_8 : decode cX12_personLine 8 = .ok (.if_icmp .ne 8, 3) := by decide +kernel
theorem dX12_personLine_11 : decode cX12_personLine 11 = .ok (.aload_n 0, 1) := by decide +kernel
theorem dX12_personLine_12 : decode cX12_personLine 12 = .ok (.iload_n 1, 1) := by decide +kernel
theorem dX12_personLine_13 : decode cX12_personLine 13 = .ok (.invokevirtual 107, 3) := by decide +kernel
theorem dX12_personLine_16 : decode cX12_personLine 16 = .ok (.aload_n 0, 1) := by decide +kernel
theorem dX12_personLine_17 : decode cX12_personLine 17 = .ok (.iconst 0, 1) := by decide +kernel
theorem dX12_personLine_18 : decode cX12_personLine 18 = .ok (.sipush 999, 3) := by decide +kernel
theorem dX12_personLine_21 : decode cX12_personLine 21 = .ok (.invokevirtual 115, 3) := by decide +kernel
theorem dX12_personLine_24 : decode cX12_personLine 24 = .ok (.istore_n 2, 1) := by decide +kernel
theorem dX12_personLine_25 : decode cX12_personLine 25 = .ok (.aload_n 0, 1) := by decide +kernel
theorem dX12_personLine_26 : decode cX12_personLine 26 = .ok (.getfield 25, 3) := by decide +kernel
theorem dX12_personLine_29 : decode cX12_personLine 29 = .ok (.iconst (-1), 1) := by decide +kernel
theorem dX12_personLine_30 : decode cX12_personLine 30 = .ok (.if_icmp .eq 4, 3) := by decide +kernel
theorem dX12_personLine_33 : decode cX12_personLine 33 = .ok (.return_, 1) := by decide +kernel
theorem dX12_personLine_34 : decode cX12_personLine 34 = .ok (.aload_n 0, 1) := by decide +kernel
theorem dX12_personLine_35 : decode cX12_personLine 35 = .ok (.getfield 7, 3) := by decide +kernel
theorem dX12_personLine_38 : decode cX12_personLine 38 = .ok (.iconst 3, 1) := by decide +kernel
theorem dX12_personLine_39 : decode cX12_personLine 39 = .ok (.iaload, 1) := by decide +kernel
theorem dX12_personLine_40 : decode cX12_personLine 40 = .ok (.istore_n 3, 1) := by decide +kernel
theorem dX12_personLine_41 : decode cX12_personLine 41 = .ok (.aload_n 0, 1) := by decide +kernel
theorem dX12_personLine_42 : decode cX12_personLine 42 = .ok (.iload_n 3, 1) := by decide +kernel
theorem dX12_personLine_43 : decode cX12_personLine 43 = .ok (.iconst 0, 1) := by decide +kernel
theorem dX12_personLine_44 : decode cX12_personLine 44 = .ok (.iload_n 2, 1) := by decide +kernel
theorem dX12_personLine_45 : decode cX12_personLine 45 = .ok (.invokevirtual 144, 3) := by decide +kernel
theorem dX12_personLine_48 : decode cX12_personLine 48 = .ok (.aload_n 0, 1) := by decide +kernel
theorem dX12_personLine_49 : decode cX12_personLine 49 = .ok (.iload_n 3, 1) := by decide +kernel
theorem dX12_personLine_50 : decode cX12_personLine 50 = .ok (.iconst 1, 1) := by decide +kernel
theorem dX12_personLine_51 : decode cX12_personLine 51 = .ok (.iconst 0, 1) := by decide +kernel
theorem dX12_personLine_52 : decode cX12_personLine 52 = .ok (.invokevirtual 144, 3) := by decide +kernel
theorem dX12_personLine_55 : decode cX12_personLine 55 = .ok (.aload_n 0, 1) := by decide +kernel
theorem dX12_personLine_56 : decode cX12_personLine 56 = .ok (.iload_n 3, 1) := by decide +kernel
theorem dX12_personLine_57 : decode cX12_personLine 57 = .ok (.iconst 2, 1) := by decide +kernel
theorem dX12_personLine_58 : decode cX12_personLine 58 = .ok (.iconst (-1), 1) := by decide +kernel
theorem dX12_personLine_59 : decode cX12_personLine 59 = .ok (.invokevirtual 144, 3) := by decide +kernel
theorem dX12_personLine_62 : decode cX12_personLine 62 = .ok (.aload_n 0, 1) := by decide +kernel
theorem dX12_personLine_63 : decode cX12_personLine 63 = .ok (.iload_n 3, 1) := by decide +kernel
theorem dX12_personLine_64 : decode cX12_personLine 64 = .ok (.iconst 3, 1) := by decide +kernel
theorem dX12_personLine_65 : decode cX12_personLine 65 = .ok (.iconst 0, 1) := by decide +kernel
theorem dX12_personLine_66 : decode cX12_personLine 66 = .ok (.invokevirtual 144, 3) := by decide +kernel
theorem dX12_personLine_69 : decode cX12_personLine 69 = .ok (.iconst 0, 1) := by decide +kernel
theorem dX12_personLine_70 : decode cX12_personLine 70 = .ok (.istore 4, 2) := by decide +kernel
theorem dX12_personLine_72 : decode cX12_personLine 72 = .ok (.iload 4, 2) := by decide +kernel
theorem dX12_personLine_74 : decode cX12_personLine 74 = .ok (.bipush 8, 2) := by decide +kernel
theorem dX12_personLine_76 : decode cX12_personLine 76 = .ok (.if_icmp .ge 41, 3) := by decide +kernel
theorem dX12_personLine_79 : decode cX12_personLine 79 = .ok (.aload_n 0, 1) := by decide +kernel
theorem dX12_personLine_80 : decode cX12_personLine 80 = .ok (.getfield 7, 3) := by decide +kernel
theorem dX12_personLine_83 : decode cX12_personLine 83 = .ok (.bipush 46, 2) := by decide +kernel
theorem dX12_personLine_85 : decode cX12_personLine 85 = .ok (.bipush 8, 2) := by decide +kernel
theorem dX12_personLine_87 : decode cX12_personLine 87 = .ok (.iload_n 3, 1) := by decide +kernel
theorem dX12_personLine_88 : decode cX12_personLine 88 = .ok (.imul, 1) := by decide +kernel
theorem dX12_personLine_89 : decode cX12_personLine 89 = .ok (.iadd, 1) := by decide +kernel
theorem dX12_personLine_90 : decode cX12_personLine 90 = .ok (.iload 4, 2) := by decide +kernel
theorem dX12_personLine_92 : decode cX12_personLine 92 = .ok (.iadd, 1) := by decide +kernel
theorem dX12_personLine_93 : decode cX12_personLine 93 = .ok (.iconst 0, 1) := by decide +kernel
theorem dX12_personLine_94 : decode cX12_personLine 94 = .ok (.iastore, 1) := by decide +kernel
theorem dX12_personLine_95 : decode cX12_personLine 95 = .ok (.aload_n 0, 1) := by decide +kernel
theorem dX12_personLine_96 : decode cX12_personLine 96 = .ok (.getfield 7, 3) := by decide +kernel
theorem dX12_personLine_99 : decode cX12_personLine 99 = .ok (.bipush 46, 2) := by decide +kernel
theorem dX12_personLine_101 : decode cX12_personLine 101 = .ok (.bipush 8, 2) := by decide +kernel
theorem dX12_personLine_103 : decode cX12_personLine 103 = .ok (.iload 4, 2) := by decide +kernel
theorem dX12_personLine_105 : decode cX12_personLine 105 = .ok (.imul, 1) := by decide +kernel
theorem dX12_personLine_106 : decode cX12_personLine 106 = .ok (.iadd, 1) := by decide +kernel
theorem dX12_personLine_107 : decode cX12_personLine 107 = .ok (.iload_n 3, 1) := by decide +kernel
theorem dX12_personLine_108 : decode cX12_personLine 108 = .ok (.iadd, 1) := by decide +kernel
theorem dX12_personLine_109 : decode cX12_personLine 109 = .ok (.iconst 0, 1) := by decide +kernel
theorem dX12_personLine_110 : decode cX12_personLine 110 = .ok (.iastore, 1) := by decide +kernel
theorem dX12_personLine_111 : decode cX12_personLine 111 = .ok (.iinc 4 1, 3) := by decide +kernel
theorem dX12_personLine_114 : decode cX12_personLine 114 = .ok (.goto (-42), 3) := by decide +kernel
theorem dX12_personLine_117 : decode cX12_personLine 117 = .ok (.aload_n 0, 1) := by decide +kernel
theorem dX12_personLine_118 : decode cX12_personLine 118 = .ok (.getfield 7, 3) := by decide +kernel
theorem dX12_personLine_121 : decode cX12_personLine 121 = .ok (.iconst 3, 1) := by decide +kernel
theorem dX12_personLine_122 : decode cX12_personLine 122 = .ok (.dup2, 1) := by decide +kernel
theorem dX12_personLine_123 : decode cX12_personLine 123 = .ok (.iaload, 1) := by decide +kernel
theorem dX12_personLine_124 : decode cX12_personLine 124 = .ok (.iconst 1, 1) := by decide +kernel
theorem dX12_personLine_125 : decode cX12_personLine 125 = .ok (.iadd, 1) := by decide +kernel
theorem dX12_personLine_126 : decode cX12_personLine 126 = .ok (.iastore, 1) := by decide +kernel
theorem dX12_personLine_127 : decode cX12_personLine 127 = .ok (.return_, 1) := by decide +kernel
theorem dX12_tells_0 : decode cX12_tells 0 = .ok (.aload_n 0, 1) := by decide +kernel
theorem dX12_tells_1 : decode cX12_tells 1 = .ok (.iconst 0, 1) := by decide +kernel
theorem dX12_tells_2 : decode cX12_tells 2 = .ok (.iload_n 2, 1) := by decide +kernel
theorem dX12_tells_3 : decode cX12_tells 3 = .ok (.invokevirtual 115, 3) := by decide +kernel
theorem dX12_tells_6 : decode cX12_tells 6 = .ok (.istore_n 3, 1) := by decide +kernel
theorem dX12_tells_7 : decode cX12_tells 7 = .ok (.aload_n 0, 1) := by decide +kernel
theorem dX12_tells_8 : decode cX12_tells 8 = .ok (.getfield 25, 3) := by decide +kernel
theorem dX12_tells_11 : decode cX12_tells 11 = .ok (.iconst (-1), 1) := by decide +kernel
theorem dX12_tells_12 : decode cX12_tells 12 = .ok (.if_icmp .ne 10, 3) := by decide +kernel
theorem dX12_tells_15 : decode cX12_tells 15 = .ok (.aload_n 0, 1) := by decide +kernel
theorem dX12_tells_16 : decode cX12_tells 16 = .ok (.getfield 7, 3) := by decide +kernel
theorem dX12_tells_19 : decode cX12_tells 19 = .ok (.iload_n 1, 1) := by decide +kernel
theorem dX12_tells_20 : decode cX12_tells 20 = .ok (.iload_n 3, 1) := by decide +kernel
theorem dX12_tells_21 : decode cX12_tells 21 = .ok (.iastore, 1) := by decide +kernel
theorem dX12_tells_22 : decode cX12_tells 22 = .ok (.return_, 1) := by decide +kernel
theorem dX12_townLine_0 : decode cX12_townLine 0 = .ok (.aload_n 0, 1) := by decide +kernel
theorem dX12_townLine_1 : decode cX12_townLine 1 = .ok (.invokevirtual 104, 3) := by decide +kernel
theorem dX12_townLine_4 : decode cX12_townLine 4 = .ok (.istore_n 1, 1) := by decide +kernel
theorem dX12_townLine_5 : decode cX12_townLine 5 = .ok (.aload_n 0, 1) := by decide +kernel
theorem dX12_townLine_6 : decode cX12_townLine 6 = .ok (.ldc 147, 2) := by decide +kernel
theorem dX12_townLine_8 : decode cX12_townLine 8 = .ok (.invokevirtual 111, 3) := by decide +kernel
theorem dX12_townLine_11 : decode cX12_townLine 11 = .ok (.ifCond .eq 11, 3) := by decide +kernel
theorem dX12_townLine_14 : decode cX12_townLine 14 = .ok (.aload_n 0, 1) := by decide +kernel
theorem dX12_townLine_15 : decode cX12_townLine 15 = .ok (.iload_n 1, 1) := by decide +kernel
theorem dX12_townLine_16 : decode cX12_townLine 16 = .ok (.invokevirtual 149, 3) := by decide +kernel
theorem dX12_townLine_19 : decode cX12_townLine 19 = .ok (.goto 188, 3) := by decide +kernel
theorem dX12_townLine_22 : decode cX12_townLine 22 = .ok (.aload_n 0, 1) := by decide +kernel
theorem dX12_townLine_23 : decode cX12_townLine 23 = .ok (.ldc 152, 2) := by decide +kernel
theorem dX12_townLine_25 : decode cX12_townLine 25 = .ok (.invokevirtual 111, 3) := by decide +kernel
theorem dX12_townLine_28 : decode cX12_townLine 28 = .ok (.ifCond .eq 10, 3) := by decide +kernel
theorem dX12_townLine_31 : decode cX12_townLine 31 = .ok (.aload_n 0, 1) := by decide +kernel
theorem dX12_townLine_32 : decode cX12_townLine 32 = .ok (.invokevirtual 154, 3) := by decide +kernel
theorem dX12_townLine_35 : decode cX12_townLine 35 = .ok (.goto 172, 3) := by decide +kernel
theorem dX12_townLine_38 : decode cX12_townLine 38 = .ok (.aload_n 0, 1) := by decide +kernel
theorem dX12_townLine_39 : decode cX12_townLine 39 = .ok (.ldc 157, 2) := by decide +kernel
theorem dX12_townLine_41 : decode cX12_townLine 41 = .ok (.invokevirtual 111, 3) := by decide +kernel
theorem dX12_townLine_44 : decode cX12_townLine 44 = .ok (.ifCond .eq 41, 3) := by decide +kernel
theorem dX12_townLine_47 : decode cX12_townLine 47 = .ok (.aload_n 0, 1) := by decide +kernel
theorem dX12_townLine_48 : decode cX12_townLine 48 = .ok (.invokevirtual 118, 3) := by decide +kernel
theorem dX12_townLine_51 : decode cX12_townLine 51 = .ok (.istore_n 2, 1) := by decide +kernel
theorem dX12_townLine_52 : decode cX12_townLine 52 = .ok (.aload_n 0, 1) := by decide +kernel
theorem dX12_townLine_53 : decode cX12_townLine 53 = .ok (.iload_n 2, 1) := by decide +kernel
theorem dX12_townLine_54 : decode cX12_townLine 54 = .ok (.invokevirtual 128, 3) := by decide +kernel
theorem dX12_townLine_57 : decode cX12_townLine 57 = .ok (.istore_n 3, 1) := by decide +kernel
theorem dX12_townLine_58 : decode cX12_townLine 58 = .ok (.aload_n 0, 1) := by decide +kernel
theorem dX12_townLine_59 : decode cX12_townLine 59 = .ok (.getfield 25, 3) := by decide +kernel
theorem dX12_townLine_62 : decode cX12_townLine 62 = .ok (.iconst (-1), 1) := by decide +kernel
theorem dX12_townLine_63 : decode cX12_townLine 63 = .ok (.if_icmp .ne 19, 3) := by decide +kernel
theorem dX12_townLine_66 : decode cX12_townLine 66 = .ok (.aload_n 0, 1) := by decide +kernel
theorem dX12_townLine_67 : decode cX12_townLine 67 = .ok (.iload_n 2, 1) := by decide +kernel
theorem dX12_townLine_68 : decode cX12_townLine 68 = .ok (.iconst 1, 1) := by decide +kernel
theorem dX12_townLine_69 : decode cX12_townLine 69 = .ok (.aload_n 0, 1) := by decide +kernel
theorem dX12_townLine_70 : decode cX12_townLine 70 = .ok (.iload_n 2, 1) := by decide +kernel
theorem dX12_townLine_71 : decode cX12_townLine 71 = .ok (.iconst 1, 1) := by decide +kernel
theorem dX12_townLine_72 : decode cX12_townLine 72 = .ok (.invokevirtual 62, 3) := by decide +kernel
theorem dX12_townLine_75 : decode cX12_townLine 75 = .ok (.iconst 1, 1) := by decide +kernel
theorem dX12_townLine_76 : decode cX12_townLine 76 = .ok (.iload_n 3, 1) := by decide +kernel
theorem dX12_townLine_77 : decode cX12_townLine 77 = .ok (.ishl, 1) := by decide +kernel
theorem dX12_townLine_78 : decode cX12_townLine 78 = .ok (.ior, 1) := by decide +kernel
theorem dX12_townLine_79 : decode cX12_townLine 79 = .ok (.invokevirtual 144, 3) := by decide +kernel
theorem dX12_townLine_82 : decode cX12_townLine 82 = .ok (.goto 125, 3) := by decide +kernel
theorem dX12_townLine_85 : decode cX12_townLine 85 = .ok (.aload_n 0, 1) := by decide +kernel
theorem dX12_townLine_86 : decode cX12_townLine 86 = .ok (.ldc 159, 2) := by decide +kernel
theorem dX12_townLine_88 : decode cX12_townLine 88 = .ok (.invokevirtual 111, 3) := by decide +kernel
theorem dX12_townLine_91 : decode cX12_townLine 91 = .ok (.ifCond .eq 32, 3) := by decide +kernel
theorem dX12_townLine_94 : decode cX12_townLine 94 = .ok (.aload_n 0, 1) := by decide +kernel
theorem dX12_townLine_95 : decode cX12_townLine 95 = .ok (.invokevirtual 118, 3) := by decide +kernel
theorem dX12_townLine_98 : decode cX12_townLine 98 = .ok (.istore_n 2, 1) := by decide +kernel
theorem dX12_townLine_99 : decode cX12_townLine 99 = .ok (.aload_n 0, 1) := by decide +kernel
theorem dX12_townLine_100 : decode cX12_townLine 100 = .ok (.iload_n 2, 1) := by decide +kernel
