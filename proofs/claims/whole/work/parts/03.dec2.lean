theorem dX12_townLine_101 : decode cX12_townLine 101 = .ok (.invokevirtual 128, 3) := by decide +kernel
theorem dX12_townLine_104 : decode cX12_townLine 104 = .ok (.istore_n 3, 1) := by decide +kernel
theorem dX12_townLine_105 : decode cX12_townLine 105 = .ok (.aload_n 0, 1) := by decide +kernel
theorem dX12_townLine_106 : decode cX12_townLine 106 = .ok (.getfield 25, 3) := by decide +kernel
theorem dX12_townLine_109 : decode cX12_townLine 109 = .ok (.iconst (-1), 1) := by decide +kernel
theorem dX12_townLine_110 : decode cX12_townLine 110 = .ok (.if_icmp .ne 10, 3) := by decide +kernel
theorem dX12_townLine_113 : decode cX12_townLine 113 = .ok (.aload_n 0, 1) := by decide +kernel
theorem dX12_townLine_114 : decode cX12_townLine 114 = .ok (.iload_n 2, 1) := by decide +kernel
theorem dX12_townLine_115 : decode cX12_townLine 115 = .ok (.iconst 2, 1) := by decide +kernel
theorem dX12_townLine_116 : decode cX12_townLine 116 = .ok (.iload_n 3, 1) := by decide +kernel
theorem dX12_townLine_117 : decode cX12_townLine 117 = .ok (.invokevirtual 144, 3) := by decide +kernel
theorem dX12_townLine_120 : decode cX12_townLine 120 = .ok (.goto 87, 3) := by decide +kernel
theorem dX12_townLine_123 : decode cX12_townLine 123 = .ok (.aload_n 0, 1) := by decide +kernel
theorem dX12_townLine_124 : decode cX12_townLine 124 = .ok (.ldc 161, 2) := by decide +kernel
theorem dX12_townLine_126 : decode cX12_townLine 126 = .ok (.invokevirtual 111, 3) := by decide +kernel
theorem dX12_townLine_129 : decode cX12_townLine 129 = .ok (.ifCond .eq 11, 3) := by decide +kernel
theorem dX12_townLine_132 : decode cX12_townLine 132 = .ok (.aload_n 0, 1) := by decide +kernel
theorem dX12_townLine_133 : decode cX12_townLine 133 = .ok (.iload_n 1, 1) := by decide +kernel
theorem dX12_townLine_134 : decode cX12_townLine 134 = .ok (.invokevirtual 163, 3) := by decide +kernel
theorem dX12_townLine_137 : decode cX12_townLine 137 = .ok (.goto 70, 3) := by decide +kernel
theorem dX12_townLine_140 : decode cX12_townLine 140 = .ok (.aload_n 0, 1) := by decide +kernel
theorem dX12_townLine_141 : decode cX12_townLine 141 = .ok (.ldc 166, 2) := by decide +kernel
theorem dX12_townLine_143 : decode cX12_townLine 143 = .ok (.invokevirtual 111, 3) := by decide +kernel
theorem dX12_townLine_146 : decode cX12_townLine 146 = .ok (.ifCond .eq 13, 3) := by decide +kernel
theorem dX12_townLine_149 : decode cX12_townLine 149 = .ok (.aload_n 0, 1) := by decide +kernel
theorem dX12_townLine_150 : decode cX12_townLine 150 = .ok (.iconst 5, 1) := by decide +kernel
theorem dX12_townLine_151 : decode cX12_townLine 151 = .ok (.bipush 99, 2) := by decide +kernel
theorem dX12_townLine_153 : decode cX12_townLine 153 = .ok (.invokevirtual 168, 3) := by decide +kernel
theorem dX12_townLine_156 : decode cX12_townLine 156 = .ok (.goto 51, 3) := by decide +kernel
theorem dX12_townLine_159 : decode cX12_townLine 159 = .ok (.aload_n 0, 1) := by decide +kernel
theorem dX12_townLine_160 : decode cX12_townLine 160 = .ok (.ldc 171, 2) := by decide +kernel
theorem dX12_townLine_162 : decode cX12_townLine 162 = .ok (.invokevirtual 111, 3) := by decide +kernel
theorem dX12_townLine_165 : decode cX12_townLine 165 = .ok (.ifCond .eq 14, 3) := by decide +kernel
theorem dX12_townLine_168 : decode cX12_townLine 168 = .ok (.aload_n 0, 1) := by decide +kernel
theorem dX12_townLine_169 : decode cX12_townLine 169 = .ok (.bipush 6, 2) := by decide +kernel
theorem dX12_townLine_171 : decode cX12_townLine 171 = .ok (.bipush 20, 2) := by decide +kernel
theorem dX12_townLine_173 : decode cX12_townLine 173 = .ok (.invokevirtual 168, 3) := by decide +kernel
theorem dX12_townLine_176 : decode cX12_townLine 176 = .ok (.goto 31, 3) := by decide +kernel
theorem dX12_townLine_179 : decode cX12_townLine 179 = .ok (.aload_n 0, 1) := by decide +kernel
theorem dX12_townLine_180 : decode cX12_townLine 180 = .ok (.ldc 173, 2) := by decide +kernel
theorem dX12_townLine_182 : decode cX12_townLine 182 = .ok (.invokevirtual 111, 3) := by decide +kernel
theorem dX12_townLine_185 : decode cX12_townLine 185 = .ok (.ifCond .eq 14, 3) := by decide +kernel
theorem dX12_townLine_188 : decode cX12_townLine 188 = .ok (.aload_n 0, 1) := by decide +kernel
theorem dX12_townLine_189 : decode cX12_townLine 189 = .ok (.bipush 7, 2) := by decide +kernel
theorem dX12_townLine_191 : decode cX12_townLine 191 = .ok (.bipush 99, 2) := by decide +kernel
theorem dX12_townLine_193 : decode cX12_townLine 193 = .ok (.invokevirtual 168, 3) := by decide +kernel
theorem dX12_townLine_196 : decode cX12_townLine 196 = .ok (.goto 11, 3) := by decide +kernel
theorem dX12_townLine_199 : decode cX12_townLine 199 = .ok (.aload_n 0, 1) := by decide +kernel
theorem dX12_townLine_200 : decode cX12_townLine 200 = .ok (.aload_n 0, 1) := by decide +kernel
theorem dX12_townLine_201 : decode cX12_townLine 201 = .ok (.getfield 82, 3) := by decide +kernel
theorem dX12_townLine_204 : decode cX12_townLine 204 = .ok (.invokevirtual 107, 3) := by decide +kernel
theorem dX12_townLine_207 : decode cX12_townLine 207 = .ok (.return_, 1) := by decide +kernel
theorem dX12_begins_0 : decode cX12_begins 0 = .ok (.aload_n 0, 1) := by decide +kernel
theorem dX12_begins_1 : decode cX12_begins 1 = .ok (.iconst (-1), 1) := by decide +kernel
theorem dX12_begins_2 : decode cX12_begins 2 = .ok (.putfield 25, 3) := by decide +kernel
theorem dX12_begins_5 : decode cX12_begins 5 = .ok (.aload_n 0, 1) := by decide +kernel
theorem dX12_begins_6 : decode cX12_begins 6 = .ok (.iconst (-1), 1) := by decide +kernel
theorem dX12_begins_7 : decode cX12_begins 7 = .ok (.putfield 79, 3) := by decide +kernel
theorem dX12_begins_10 : decode cX12_begins 10 = .ok (.aload_n 0, 1) := by decide +kernel
theorem dX12_begins_11 : decode cX12_begins 11 = .ok (.aload_n 0, 1) := by decide +kernel
theorem dX12_begins_12 : decode cX12_begins 12 = .ok (.getfield 76, 3) := by decide +kernel
theorem dX12_begins_15 : decode cX12_begins 15 = .ok (.putfield 85, 3) := by decide +kernel
theorem dX12_begins_18 : decode cX12_begins 18 = .ok (.aload_n 0, 1) := by decide +kernel
theorem dX12_begins_19 : decode cX12_begins 19 = .ok (.iconst 0, 1) := by decide +kernel
theorem dX12_begins_20 : decode cX12_begins 20 = .ok (.putfield 76, 3) := by decide +kernel
theorem dX12_begins_23 : decode cX12_begins 23 = .ok (.aload_n 0, 1) := by decide +kernel
theorem dX12_begins_24 : decode cX12_begins 24 = .ok (.iconst 0, 1) := by decide +kernel
theorem dX12_begins_25 : decode cX12_begins 25 = .ok (.putfield 82, 3) := by decide +kernel
theorem dX12_begins_28 : decode cX12_begins 28 = .ok (.aload_n 0, 1) := by decide +kernel
theorem dX12_begins_29 : decode cX12_begins 29 = .ok (.iconst 0, 1) := by decide +kernel
theorem dX12_begins_30 : decode cX12_begins 30 = .ok (.putfield 175, 3) := by decide +kernel
theorem dX12_begins_33 : decode cX12_begins 33 = .ok (.return_, 1) := by decide +kernel
theorem dX12_read_0 : decode cX12_read 0 = .ok (.aload_n 0, 1) := by decide +kernel
theorem dX12_read_1 : decode cX12_read 1 = .ok (.invokevirtual 91, 3) := by decide +kernel
theorem dX12_read_4 : decode cX12_read 4 = .ok (.aload_n 0, 1) := by decide +kernel
theorem dX12_read_5 : decode cX12_read 5 = .ok (.getfield 82, 3) := by decide +kernel
theorem dX12_read_8 : decode cX12_read 8 = .ok (.aload_n 0, 1) := by decide +kernel
theorem dX12_read_9 : decode cX12_read 9 = .ok (.getfield 85, 3) := by decide +kernel
theorem dX12_read_12 : decode cX12_read 12 = .ok (.if_icmp .ge 7, 3) := by decide +kernel
theorem dX12_read_15 : decode cX12_read 15 = .ok (.iconst 1, 1) := by decide +kernel
theorem dX12_read_16 : decode cX12_read 16 = .ok (.goto 4, 3) := by decide +kernel
theorem dX12_read_19 : decode cX12_read 19 = .ok (.iconst 0, 1) := by decide +kernel
theorem dX12_read_20 : decode cX12_read 20 = .ok (.istore_n 2, 1) := by decide +kernel
theorem dX12_read_21 : decode cX12_read 21 = .ok (.iconst 0, 1) := by decide +kernel
theorem dX12_read_22 : decode cX12_read 22 = .ok (.istore_n 3, 1) := by decide +kernel
theorem dX12_read_23 : decode cX12_read 23 = .ok (.iload_n 2, 1) := by decide +kernel
theorem dX12_read_24 : decode cX12_read 24 = .ok (.ifCond .eq 120, 3) := by decide +kernel
theorem dX12_read_27 : decode cX12_read 27 = .ok (.aload_n 0, 1) := by decide +kernel
theorem dX12_read_28 : decode cX12_read 28 = .ok (.getfield 25, 3) := by decide +kernel
theorem dX12_read_31 : decode cX12_read 31 = .ok (.iconst (-1), 1) := by decide +kernel
theorem dX12_read_32 : decode cX12_read 32 = .ok (.if_icmp .ne 112, 3) := by decide +kernel
theorem dX12_read_35 : decode cX12_read 35 = .ok (.aload_n 0, 1) := by decide +kernel
theorem dX12_read_36 : decode cX12_read 36 = .ok (.invokevirtual 91, 3) := by decide +kernel
theorem dX12_read_39 : decode cX12_read 39 = .ok (.iload_n 3, 1) := by decide +kernel
theorem dX12_read_40 : decode cX12_read 40 = .ok (.iload_n 1, 1) := by decide +kernel
theorem dX12_read_41 : decode cX12_read 41 = .ok (.ifCond .eq 8, 3) := by decide +kernel
theorem dX12_read_44 : decode cX12_read 44 = .ok (.bipush 12, 2) := by decide +kernel
theorem dX12_read_46 : decode cX12_read 46 = .ok (.goto 5, 3) := by decide +kernel
theorem dX12_read_49 : decode cX12_read 49 = .ok (.bipush 14, 2) := by decide +kernel
theorem dX12_read_51 : decode cX12_read 51 = .ok (.if_icmp .ne 14, 3) := by decide +kernel
theorem dX12_read_54 : decode cX12_read 54 = .ok (.aload_n 0, 1) := by decide +kernel
theorem dX12_read_55 : decode cX12_read 55 = .ok (.aload_n 0, 1) := by decide +kernel
theorem dX12_read_56 : decode cX12_read 56 = .ok (.getfield 82, 3) := by decide +kernel
theorem dX12_read_59 : decode cX12_read 59 = .ok (.invokevirtual 107, 3) := by decide +kernel
theorem dX12_read_62 : decode cX12_read 62 = .ok (.goto 18, 3) := by decide +kernel
theorem dX12_read_65 : decode cX12_read 65 = .ok (.iload_n 1, 1) := by decide +kernel
theorem dX12_read_66 : decode cX12_read 66 = .ok (.ifCond .eq 10, 3) := by decide +kernel
theorem dX12_read_69 : decode cX12_read 69 = .ok (.aload_n 0, 1) := by decide +kernel
theorem dX12_read_70 : decode cX12_read 70 = .ok (.invokevirtual 178, 3) := by decide +kernel
theorem dX12_read_73 : decode cX12_read 73 = .ok (.goto 7, 3) := by decide +kernel
theorem dX12_read_76 : decode cX12_read 76 = .ok (.aload_n 0, 1) := by decide +kernel
theorem dX12_read_77 : decode cX12_read 77 = .ok (.invokevirtual 181, 3) := by decide +kernel
theorem dX12_read_80 : decode cX12_read 80 = .ok (.iinc 3 1, 3) := by decide +kernel
theorem dX12_read_83 : decode cX12_read 83 = .ok (.aload_n 0, 1) := by decide +kernel
theorem dX12_read_84 : decode cX12_read 84 = .ok (.invokevirtual 91, 3) := by decide +kernel
theorem dX12_read_87 : decode cX12_read 87 = .ok (.aload_n 0, 1) := by decide +kernel
theorem dX12_read_88 : decode cX12_read 88 = .ok (.getfield 25, 3) := by decide +kernel
theorem dX12_read_91 : decode cX12_read 91 = .ok (.iconst (-1), 1) := by decide +kernel
theorem dX12_read_92 : decode cX12_read 92 = .ok (.if_icmp .ne 14, 3) := by decide +kernel
theorem dX12_read_95 : decode cX12_read 95 = .ok (.aload_n 0, 1) := by decide +kernel
theorem dX12_read_96 : decode cX12_read 96 = .ok (.getfield 82, 3) := by decide +kernel
theorem dX12_read_99 : decode cX12_read 99 = .ok (.aload_n 0, 1) := by decide +kernel
theorem dX12_read_100 : decode cX12_read 100 = .ok (.getfield 85, 3) := by decide +kernel
theorem dX12_read_103 : decode cX12_read 103 = .ok (.if_icmp .ne 8, 3) := by decide +kernel
theorem dX12_read_106 : decode cX12_read 106 = .ok (.iconst 0, 1) := by decide +kernel
theorem dX12_read_107 : decode cX12_read 107 = .ok (.istore_n 2, 1) := by decide +kernel
theorem dX12_read_108 : decode cX12_read 108 = .ok (.goto (-85), 3) := by decide +kernel
theorem dX12_read_111 : decode cX12_read 111 = .ok (.aload_n 0, 1) := by decide +kernel
theorem dX12_read_112 : decode cX12_read 112 = .ok (.bipush 59, 2) := by decide +kernel
theorem dX12_read_114 : decode cX12_read 114 = .ok (.invokevirtual 184, 3) := by decide +kernel
theorem dX12_read_117 : decode cX12_read 117 = .ok (.ifCond .eq 16, 3) := by decide +kernel
theorem dX12_read_120 : decode cX12_read 120 = .ok (.aload_n 0, 1) := by decide +kernel
theorem dX12_read_121 : decode cX12_read 121 = .ok (.dup, 1) := by decide +kernel
theorem dX12_read_122 : decode cX12_read 122 = .ok (.getfield 82, 3) := by decide +kernel
theorem dX12_read_125 : decode cX12_read 125 = .ok (.iconst 1, 1) := by decide +kernel
theorem dX12_read_126 : decode cX12_read 126 = .ok (.iadd, 1) := by decide +kernel
theorem dX12_read_127 : decode cX12_read 127 = .ok (.putfield 82, 3) := by decide +kernel
theorem dX12_read_130 : decode cX12_read 130 = .ok (.goto (-107), 3) := by decide +kernel
theorem dX12_read_133 : decode cX12_read 133 = .ok (.aload_n 0, 1) := by decide +kernel
theorem dX12_read_134 : decode cX12_read 134 = .ok (.aload_n 0, 1) := by decide +kernel
theorem dX12_read_135 : decode cX12_read 135 = .ok (.getfield 82, 3) := by decide +kernel
theorem dX12_read_138 : decode cX12_read 138 = .ok (.invokevirtual 107, 3) := by decide +kernel
theorem dX12_read_141 : decode cX12_read 141 = .ok (.goto (-118), 3) := by decide +kernel
theorem dX12_read_144 : decode cX12_read 144 = .ok (.iload_n 3, 1) := by decide +kernel
theorem dX12_read_145 : decode cX12_read 145 = .ok (.ireturn, 1) := by decide +kernel
theorem dX12_putsAside_0 : decode cX12_putsAside 0 = .ok (.iconst 0, 1) := by decide +kernel
theorem dX12_putsAside_1 : decode cX12_putsAside 1 = .ok (.istore_n 1, 1) := by decide +kernel
theorem dX12_putsAside_2 : decode cX12_putsAside 2 = .ok (.iload_n 1, 1) := by decide +kernel
theorem dX12_putsAside_3 : decode cX12_putsAside 3 = .ok (.sipush 450, 3) := by decide +kernel
theorem dX12_putsAside_6 : decode cX12_putsAside 6 = .ok (.if_icmp .ge 21, 3) := by decide +kernel
theorem dX12_putsAside_9 : decode cX12_putsAside 9 = .ok (.aload_n 0, 1) := by decide +kernel
theorem dX12_putsAside_10 : decode cX12_putsAside 10 = .ok (.getfield 16, 3) := by decide +kernel
theorem dX12_putsAside_13 : decode cX12_putsAside 13 = .ok (.iload_n 1, 1) := by decide +kernel
theorem dX12_putsAside_14 : decode cX12_putsAside 14 = .ok (.aload_n 0, 1) := by decide +kernel
theorem dX12_putsAside_15 : decode cX12_putsAside 15 = .ok (.getfield 7, 3) := by decide +kernel
theorem dX12_putsAside_18 : decode cX12_putsAside 18 = .ok (.iload_n 1, 1) := by decide +kernel
theorem dX12_putsAside_19 : decode cX12_putsAside 19 = .ok (.iaload, 1) := by decide +kernel
theorem dX12_putsAside_20 : decode cX12_putsAside 20 = .ok (.iastore, 1) := by decide +kernel
theorem dX12_putsAside_21 : decode cX12_putsAside 21 = .ok (.iinc 1 1, 3) := by decide +kernel
theorem dX12_putsAside_24 : decode cX12_putsAside 24 = .ok (.goto (-22), 3) := by decide +kernel
theorem dX12_putsAside_27 : decode cX12_putsAside 27 = .ok (.return_, 1) := by decide +kernel
theorem dX12_comesBack_0 : decode cX12_comesBack 0 = .ok (.iconst 0, 1) := by decide +kernel
theorem dX12_comesBack_1 : decode cX12_comesBack 1 = .ok (.istore_n 1, 1) := by decide +kernel
theorem dX12_comesBack_2 : decode cX12_comesBack 2 = .ok (.iload_n 1, 1) := by decide +kernel
theorem dX12_comesBack_3 : decode cX12_comesBack 3 = .ok (.sipush 450, 3) := by decide +kernel
theorem dX12_comesBack_6 : decode cX12_comesBack 6 = .ok (.if_icmp .ge 21, 3) := by decide +kernel
theorem dX12_comesBack_9 : decode cX12_comesBack 9 = .ok (.aload_n 0, 1) := by decide +kernel
theorem dX12_comesBack_10 : decode cX12_comesBack 10 = .ok (.getfield 7, 3) := by decide +kernel
theorem dX12_comesBack_13 : decode cX12_comesBack 13 = .ok (.iload_n 1, 1) := by decide +kernel
theorem dX12_comesBack_14 : decode cX12_comesBack 14 = .ok (.aload_n 0, 1) := by decide +kernel
theorem dX12_comesBack_15 : decode cX12_comesBack 15 = .ok (.getfield 16, 3) := by decide +kernel
theorem dX12_comesBack_18 : decode cX12_comesBack 18 = .ok (.iload_n 1, 1) := by decide +kernel
theorem dX12_comesBack_19 : decode cX12_comesBack 19 = .ok (.iaload, 1) := by decide +kernel
theorem dX12_comesBack_20 : decode cX12_comesBack 20 = .ok (.iastore, 1) := by decide +kernel
theorem dX12_comesBack_21 : decode cX12_comesBack 21 = .ok (.iinc 1 1, 3) := by decide +kernel
theorem dX12_comesBack_24 : decode cX12_comesBack 24 = .ok (.goto (-22), 3) := by decide +kernel
theorem dX12_comesBack_27 : decode cX12_comesBack 27 = .ok (.return_, 1) := by decide +kernel
theorem dX12_town_0 : decode cX12_town 0 = .ok (.aload_n 0, 1) := by decide +kernel
theorem dX12_town_1 : decode cX12_town 1 = .ok (.invokevirtual 188, 3) := by decide +kernel
theorem dX12_town_4 : decode cX12_town 4 = .ok (.aload_n 0, 1) := by decide +kernel
theorem dX12_town_5 : decode cX12_town 5 = .ok (.invokevirtual 191, 3) := by decide +kernel
theorem dX12_town_8 : decode cX12_town 8 = .ok (.aload_n 0, 1) := by decide +kernel
theorem dX12_town_9 : decode cX12_town 9 = .ok (.iconst 0, 1) := by decide +kernel
theorem dX12_town_10 : decode cX12_town 10 = .ok (.invokevirtual 194, 3) := by decide +kernel
theorem dX12_town_13 : decode cX12_town 13 = .ok (.istore_n 1, 1) := by decide +kernel
theorem dX12_town_14 : decode cX12_town 14 = .ok (.aload_n 0, 1) := by decide +kernel
theorem dX12_town_15 : decode cX12_town 15 = .ok (.aload_n 0, 1) := by decide +kernel
theorem dX12_town_16 : decode cX12_town 16 = .ok (.getfield 25, 3) := by decide +kernel
theorem dX12_town_19 : decode cX12_town 19 = .ok (.iconst (-1), 1) := by decide +kernel
theorem dX12_town_20 : decode cX12_town 20 = .ok (.if_icmp .eq 7, 3) := by decide +kernel
theorem dX12_town_23 : decode cX12_town 23 = .ok (.iconst 1, 1) := by decide +kernel
theorem dX12_town_24 : decode cX12_town 24 = .ok (.goto 19, 3) := by decide +kernel
theorem dX12_town_27 : decode cX12_town 27 = .ok (.aload_n 0, 1) := by decide +kernel
theorem dX12_town_28 : decode cX12_town 28 = .ok (.getfield 7, 3) := by decide +kernel
theorem dX12_town_31 : decode cX12_town 31 = .ok (.iconst 0, 1) := by decide +kernel
theorem dX12_town_32 : decode cX12_town 32 = .ok (.iaload, 1) := by decide +kernel
theorem dX12_town_33 : decode cX12_town 33 = .ok (.bipush 12, 2) := by decide +kernel
theorem dX12_town_35 : decode cX12_town 35 = .ok (.if_icmp .ne 7, 3) := by decide +kernel
theorem dX12_town_38 : decode cX12_town 38 = .ok (.iconst 2, 1) := by decide +kernel
theorem dX12_town_39 : decode cX12_town 39 = .ok (.goto 4, 3) := by decide +kernel
theorem dX12_town_42 : decode cX12_town 42 = .ok (.iconst 0, 1) := by decide +kernel
theorem dX12_town_43 : decode cX12_town 43 = .ok (.putfield 51, 3) := by decide +kernel
theorem dX12_town_46 : decode cX12_town 46 = .ok (.aload_n 0, 1) := by decide +kernel
theorem dX12_town_47 : decode cX12_town 47 = .ok (.getfield 51, 3) := by decide +kernel
theorem dX12_town_50 : decode cX12_town 50 = .ok (.ifCond .le 9, 3) := by decide +kernel
theorem dX12_town_53 : decode cX12_town 53 = .ok (.aload_n 0, 1) := by decide +kernel
theorem dX12_town_54 : decode cX12_town 54 = .ok (.invokevirtual 198, 3) := by decide +kernel
theorem dX12_town_57 : decode cX12_town 57 = .ok (.iconst 0, 1) := by decide +kernel
theorem dX12_town_58 : decode cX12_town 58 = .ok (.ireturn, 1) := by decide +kernel
theorem dX12_town_59 : decode cX12_town 59 = .ok (.aload_n 0, 1) := by decide +kernel
theorem dX12_town_60 : decode cX12_town 60 = .ok (.getfield 7, 3) := by decide +kernel
theorem dX12_town_63 : decode cX12_town 63 = .ok (.iconst 0, 1) := by decide +kernel
theorem dX12_town_64 : decode cX12_town 64 = .ok (.dup2, 1) := by decide +kernel
theorem dX12_town_65 : decode cX12_town 65 = .ok (.iaload, 1) := by decide +kernel
theorem dX12_town_66 : decode cX12_town 66 = .ok (.iconst 1, 1) := by decide +kernel
theorem dX12_town_67 : decode cX12_town 67 = .ok (.iadd, 1) := by decide +kernel
theorem dX12_town_68 : decode cX12_town 68 = .ok (.iastore, 1) := by decide +kernel
theorem dX12_town_69 : decode cX12_town 69 = .ok (.aload_n 0, 1) := by decide +kernel
theorem dX12_town_70 : decode cX12_town 70 = .ok (.iconst 0, 1) := by decide +kernel
theorem dX12_town_71 : decode cX12_town 71 = .ok (.putfield 201, 3) := by decide +kernel
theorem dX12_town_74 : decode cX12_town 74 = .ok (.aload_n 0, 1) := by decide +kernel
theorem dX12_town_75 : decode cX12_town 75 = .ok (.getfield 7, 3) := by decide +kernel
theorem dX12_town_78 : decode cX12_town 78 = .ok (.iconst 0, 1) := by decide +kernel
theorem dX12_town_79 : decode cX12_town 79 = .ok (.iaload, 1) := by decide +kernel
theorem dX12_town_80 : decode cX12_town 80 = .ok (.ireturn, 1) := by decide +kernel
theorem dX12_part_0 : decode cX12_part 0 = .ok (.aload_n 0, 1) := by decide +kernel
theorem dX12_part_1 : decode cX12_part 1 = .ok (.getfield 25, 3) := by decide +kernel
theorem dX12_part_4 : decode cX12_part 4 = .ok (.iconst (-1), 1) := by decide +kernel
theorem dX12_part_5 : decode cX12_part 5 = .ok (.if_icmp .eq 5, 3) := by decide +kernel
theorem dX12_part_8 : decode cX12_part 8 = .ok (.iconst 0, 1) := by decide +kernel
theorem dX12_part_9 : decode cX12_part 9 = .ok (.ireturn, 1) := by decide +kernel
theorem dX12_part_10 : decode cX12_part 10 = .ok (.aload_n 0, 1) := by decide +kernel
theorem dX12_part_11 : decode cX12_part 11 = .ok (.invokevirtual 91, 3) := by decide +kernel
theorem dX12_part_14 : decode cX12_part 14 = .ok (.aload_n 0, 1) := by decide +kernel
theorem dX12_part_15 : decode cX12_part 15 = .ok (.getfield 82, 3) := by decide +kernel
theorem dX12_part_18 : decode cX12_part 18 = .ok (.aload_n 0, 1) := by decide +kernel
theorem dX12_part_19 : decode cX12_part 19 = .ok (.getfield 85, 3) := by decide +kernel
theorem dX12_part_22 : decode cX12_part 22 = .ok (.if_icmp .ge 30, 3) := by decide +kernel
theorem dX12_part_25 : decode cX12_part 25 = .ok (.aload_n 0, 1) := by decide +kernel
theorem dX12_part_26 : decode cX12_part 26 = .ok (.aload_n 0, 1) := by decide +kernel
theorem dX12_part_27 : decode cX12_part 27 = .ok (.getfield 82, 3) := by decide +kernel
theorem dX12_part_30 : decode cX12_part 30 = .ok (.invokevirtual 88, 3) := by decide +kernel
theorem dX12_part_33 : decode cX12_part 33 = .ok (.bipush 48, 2) := by decide +kernel
theorem dX12_part_35 : decode cX12_part 35 = .ok (.bipush 57, 2) := by decide +kernel
theorem dX12_part_37 : decode cX12_part 37 = .ok (.invokestatic 54, 3) := by decide +kernel
theorem dX12_part_40 : decode cX12_part 40 = .ok (.ifCond .eq 12, 3) := by decide +kernel
theorem dX12_part_43 : decode cX12_part 43 = .ok (.aload_n 0, 1) := by decide +kernel
theorem dX12_part_44 : decode cX12_part 44 = .ok (.iconst 0, 1) := by decide +kernel
theorem dX12_part_45 : decode cX12_part 45 = .ok (.sipush 999, 3) := by decide +kernel
theorem dX12_part_48 : decode cX12_part 48 = .ok (.invokevirtual 115, 3) := by decide +kernel
theorem dX12_part_51 : decode cX12_part 51 = .ok (.ireturn, 1) := by decide +kernel
theorem dX12_part_52 : decode cX12_part 52 = .ok (.aload_n 0, 1) := by decide +kernel
theorem dX12_part_53 : decode cX12_part 53 = .ok (.ldc 131, 2) := by decide +kernel
theorem dX12_part_55 : decode cX12_part 55 = .ok (.invokevirtual 111, 3) := by decide +kernel
theorem dX12_part_58 : decode cX12_part 58 = .ok (.ifCond .eq 7, 3) := by decide +kernel
theorem dX12_part_61 : decode cX12_part 61 = .ok (.iconst 0, 1) := by decide +kernel
theorem dX12_part_62 : decode cX12_part 62 = .ok (.goto 69, 3) := by decide +kernel
theorem dX12_part_65 : decode cX12_part 65 = .ok (.aload_n 0, 1) := by decide +kernel
theorem dX12_part_66 : decode cX12_part 66 = .ok (.ldc 204, 2) := by decide +kernel
theorem dX12_part_68 : decode cX12_part 68 = .ok (.invokevirtual 111, 3) := by decide +kernel
theorem dX12_part_71 : decode cX12_part 71 = .ok (.ifCond .eq 7, 3) := by decide +kernel
theorem dX12_part_74 : decode cX12_part 74 = .ok (.iconst 1, 1) := by decide +kernel
theorem dX12_part_75 : decode cX12_part 75 = .ok (.goto 56, 3) := by decide +kernel
theorem dX12_part_78 : decode cX12_part 78 = .ok (.aload_n 0, 1) := by decide +kernel
theorem dX12_part_79 : decode cX12_part 79 = .ok (.ldc 206, 2) := by decide +kernel
theorem dX12_part_81 : decode cX12_part 81 = .ok (.invokevirtual 111, 3) := by decide +kernel
theorem dX12_part_84 : decode cX12_part 84 = .ok (.ifCond .eq 7, 3) := by decide +kernel
theorem dX12_part_87 : decode cX12_part 87 = .ok (.iconst 2, 1) := by decide +kernel
theorem dX12_part_88 : decode cX12_part 88 = .ok (.goto 43, 3) := by decide +kernel
theorem dX12_part_91 : decode cX12_part 91 = .ok (.aload_n 0, 1) := by decide +kernel
theorem dX12_part_92 : decode cX12_part 92 = .ok (.ldc 208, 2) := by decide +kernel
theorem dX12_part_94 : decode cX12_part 94 = .ok (.invokevirtual 111, 3) := by decide +kernel
theorem dX12_part_97 : decode cX12_part 97 = .ok (.ifCond .eq 7, 3) := by decide +kernel
theorem dX12_part_100 : decode cX12_part 100 = .ok (.iconst 3, 1) := by decide +kernel
theorem dX12_part_101 : decode cX12_part 101 = .ok (.goto 30, 3) := by decide +kernel
theorem dX12_part_104 : decode cX12_part 104 = .ok (.aload_n 0, 1) := by decide +kernel
theorem dX12_part_105 : decode cX12_part 105 = .ok (.ldc 210, 2) := by decide +kernel
theorem dX12_part_107 : decode cX12_part 107 = .ok (.invokevirtual 111, 3) := by decide +kernel
theorem dX12_part_110 : decode cX12_part 110 = .ok (.ifCond .eq 7, 3) := by decide +kernel
theorem dX12_part_113 : decode cX12_part 113 = .ok (.iconst 4, 1) := by decide +kernel
theorem dX12_part_114 : decode cX12_part 114 = .ok (.goto 17, 3) := by decide +kernel
theorem dX12_part_117 : decode cX12_part 117 = .ok (.aload_n 0, 1) := by decide +kernel
theorem dX12_part_118 : decode cX12_part 118 = .ok (.ldc 212, 2) := by decide +kernel
theorem dX12_part_120 : decode cX12_part 120 = .ok (.invokevirtual 111, 3) := by decide +kernel
theorem dX12_part_123 : decode cX12_part 123 = .ok (.ifCond .eq 7, 3) := by decide +kernel
theorem dX12_part_126 : decode cX12_part 126 = .ok (.iconst 5, 1) := by decide +kernel
theorem dX12_part_127 : decode cX12_part 127 = .ok (.goto 4, 3) := by decide +kernel
theorem dX12_part_130 : decode cX12_part 130 = .ok (.iconst (-1), 1) := by decide +kernel
theorem dX12_part_131 : decode cX12_part 131 = .ok (.istore_n 1, 1) := by decide +kernel
theorem dX12_part_132 : decode cX12_part 132 = .ok (.iload_n 1, 1) := by decide +kernel
theorem dX12_part_133 : decode cX12_part 133 = .ok (.iconst (-1), 1) := by decide +kernel
theorem dX12_part_134 : decode cX12_part 134 = .ok (.if_icmp .ne 13, 3) := by decide +kernel
theorem dX12_part_137 : decode cX12_part 137 = .ok (.aload_n 0, 1) := by decide +kernel
theorem dX12_part_138 : decode cX12_part 138 = .ok (.aload_n 0, 1) := by decide +kernel
theorem dX12_part_139 : decode cX12_part 139 = .ok (.getfield 82, 3) := by decide +kernel
theorem dX12_part_142 : decode cX12_part 142 = .ok (.invokevirtual 107, 3) := by decide +kernel
theorem dX12_part_145 : decode cX12_part 145 = .ok (.iconst 0, 1) := by decide +kernel
theorem dX12_part_146 : decode cX12_part 146 = .ok (.ireturn, 1) := by decide +kernel
theorem dX12_part_147 : decode cX12_part 147 = .ok (.aload_n 0, 1) := by decide +kernel
theorem dX12_part_148 : decode cX12_part 148 = .ok (.getfield 29, 3) := by decide +kernel
theorem dX12_part_151 : decode cX12_part 151 = .ok (.iload_n 1, 1) := by decide +kernel
theorem dX12_part_152 : decode cX12_part 152 = .ok (.iaload, 1) := by decide +kernel
theorem dX12_part_153 : decode cX12_part 153 = .ok (.ireturn, 1) := by decide +kernel
theorem dX12_sum_0 : decode cX12_sum 0 = .ok (.aload_n 0, 1) := by decide +kernel
theorem dX12_sum_1 : decode cX12_sum 1 = .ok (.invokevirtual 214, 3) := by decide +kernel
theorem dX12_sum_4 : decode cX12_sum 4 = .ok (.istore_n 1, 1) := by decide +kernel
theorem dX12_sum_5 : decode cX12_sum 5 = .ok (.aload_n 0, 1) := by decide +kernel
theorem dX12_sum_6 : decode cX12_sum 6 = .ok (.getfield 25, 3) := by decide +kernel
theorem dX12_sum_9 : decode cX12_sum 9 = .ok (.iconst (-1), 1) := by decide +kernel
theorem dX12_sum_10 : decode cX12_sum 10 = .ok (.if_icmp .ne 32, 3) := by decide +kernel
theorem dX12_sum_13 : decode cX12_sum 13 = .ok (.aload_n 0, 1) := by decide +kernel
theorem dX12_sum_14 : decode cX12_sum 14 = .ok (.bipush 43, 2) := by decide +kernel
theorem dX12_sum_16 : decode cX12_sum 16 = .ok (.invokevirtual 184, 3) := by decide +kernel
theorem dX12_sum_19 : decode cX12_sum 19 = .ok (.ifCond .eq 23, 3) := by decide +kernel
theorem dX12_sum_22 : decode cX12_sum 22 = .ok (.aload_n 0, 1) := by decide +kernel
theorem dX12_sum_23 : decode cX12_sum 23 = .ok (.dup, 1) := by decide +kernel
theorem dX12_sum_24 : decode cX12_sum 24 = .ok (.getfield 82, 3) := by decide +kernel
theorem dX12_sum_27 : decode cX12_sum 27 = .ok (.iconst 1, 1) := by decide +kernel
theorem dX12_sum_28 : decode cX12_sum 28 = .ok (.iadd, 1) := by decide +kernel
theorem dX12_sum_29 : decode cX12_sum 29 = .ok (.putfield 82, 3) := by decide +kernel
theorem dX12_sum_32 : decode cX12_sum 32 = .ok (.iload_n 1, 1) := by decide +kernel
theorem dX12_sum_33 : decode cX12_sum 33 = .ok (.aload_n 0, 1) := by decide +kernel
theorem dX12_sum_34 : decode cX12_sum 34 = .ok (.invokevirtual 214, 3) := by decide +kernel
theorem dX12_sum_37 : decode cX12_sum 37 = .ok (.iadd, 1) := by decide +kernel
theorem dX12_sum_38 : decode cX12_sum 38 = .ok (.istore_n 1, 1) := by decide +kernel
theorem dX12_sum_39 : decode cX12_sum 39 = .ok (.goto (-34), 3) := by decide +kernel
theorem dX12_sum_42 : decode cX12_sum 42 = .ok (.iload_n 1, 1) := by decide +kernel
theorem dX12_sum_43 : decode cX12_sum 43 = .ok (.ireturn, 1) := by decide +kernel
theorem dX12_plain_0 : decode cX12_plain 0 = .ok (.aload_n 0, 1) := by decide +kernel
theorem dX12_plain_1 : decode cX12_plain 1 = .ok (.ldc 217, 2) := by decide +kernel
theorem dX12_plain_3 : decode cX12_plain 3 = .ok (.invokevirtual 111, 3) := by decide +kernel
theorem dX12_plain_6 : decode cX12_plain 6 = .ok (.ifCond .eq 18, 3) := by decide +kernel
theorem dX12_plain_9 : decode cX12_plain 9 = .ok (.aload_n 0, 1) := by decide +kernel
theorem dX12_plain_10 : decode cX12_plain 10 = .ok (.getfield 29, 3) := by decide +kernel
theorem dX12_plain_13 : decode cX12_plain 13 = .ok (.iconst 3, 1) := by decide +kernel
theorem dX12_plain_14 : decode cX12_plain 14 = .ok (.iaload, 1) := by decide +kernel
theorem dX12_plain_15 : decode cX12_plain 15 = .ok (.ifCond .le 7, 3) := by decide +kernel
theorem dX12_plain_18 : decode cX12_plain 18 = .ok (.iconst 1, 1) := by decide +kernel
theorem dX12_plain_19 : decode cX12_plain 19 = .ok (.goto 4, 3) := by decide +kernel
theorem dX12_plain_22 : decode cX12_plain 22 = .ok (.iconst 0, 1) := by decide +kernel
theorem dX12_plain_23 : decode cX12_plain 23 = .ok (.ireturn, 1) := by decide +kernel
theorem dX12_plain_24 : decode cX12_plain 24 = .ok (.aload_n 0, 1) := by decide +kernel
theorem dX12_plain_25 : decode cX12_plain 25 = .ok (.ldc 219, 2) := by decide +kernel
theorem dX12_plain_27 : decode cX12_plain 27 = .ok (.invokevirtual 111, 3) := by decide +kernel
theorem dX12_plain_30 : decode cX12_plain 30 = .ok (.ifCond .eq 8, 3) := by decide +kernel
theorem dX12_plain_33 : decode cX12_plain 33 = .ok (.aload_n 0, 1) := by decide +kernel
theorem dX12_plain_34 : decode cX12_plain 34 = .ok (.getfield 221, 3) := by decide +kernel
theorem dX12_plain_37 : decode cX12_plain 37 = .ok (.ireturn, 1) := by decide +kernel
theorem dX12_plain_38 : decode cX12_plain 38 = .ok (.aload_n 0, 1) := by decide +kernel
theorem dX12_plain_39 : decode cX12_plain 39 = .ok (.invokevirtual 225, 3) := by decide +kernel
theorem dX12_plain_42 : decode cX12_plain 42 = .ok (.istore_n 1, 1) := by decide +kernel
theorem dX12_plain_43 : decode cX12_plain 43 = .ok (.aload_n 0, 1) := by decide +kernel
theorem dX12_plain_44 : decode cX12_plain 44 = .ok (.getfield 25, 3) := by decide +kernel
theorem dX12_plain_47 : decode cX12_plain 47 = .ok (.iconst (-1), 1) := by decide +kernel
theorem dX12_plain_48 : decode cX12_plain 48 = .ok (.if_icmp .eq 5, 3) := by decide +kernel
theorem dX12_plain_51 : decode cX12_plain 51 = .ok (.iconst 0, 1) := by decide +kernel
theorem dX12_plain_52 : decode cX12_plain 52 = .ok (.ireturn, 1) := by decide +kernel
theorem dX12_plain_53 : decode cX12_plain 53 = .ok (.aload_n 0, 1) := by decide +kernel
theorem dX12_plain_54 : decode cX12_plain 54 = .ok (.bipush 60, 2) := by decide +kernel
theorem dX12_plain_56 : decode cX12_plain 56 = .ok (.invokevirtual 184, 3) := by decide +kernel
theorem dX12_plain_59 : decode cX12_plain 59 = .ok (.istore_n 2, 1) := by decide +kernel
theorem dX12_plain_60 : decode cX12_plain 60 = .ok (.iload_n 2, 1) := by decide +kernel
theorem dX12_plain_61 : decode cX12_plain 61 = .ok (.ifCond .ne 22, 3) := by decide +kernel
theorem dX12_plain_64 : decode cX12_plain 64 = .ok (.aload_n 0, 1) := by decide +kernel
theorem dX12_plain_65 : decode cX12_plain 65 = .ok (.bipush 62, 2) := by decide +kernel
theorem dX12_plain_67 : decode cX12_plain 67 = .ok (.invokevirtual 184, 3) := by decide +kernel
theorem dX12_plain_70 : decode cX12_plain 70 = .ok (.ifCond .ne 13, 3) := by decide +kernel
theorem dX12_plain_73 : decode cX12_plain 73 = .ok (.aload_n 0, 1) := by decide +kernel
theorem dX12_plain_74 : decode cX12_plain 74 = .ok (.aload_n 0, 1) := by decide +kernel
theorem dX12_plain_75 : decode cX12_plain 75 = .ok (.getfield 82, 3) := by decide +kernel
theorem dX12_plain_78 : decode cX12_plain 78 = .ok (.invokevirtual 107, 3) := by decide +kernel
theorem dX12_plain_81 : decode cX12_plain 81 = .ok (.iconst 0, 1) := by decide +kernel
theorem dX12_plain_82 : decode cX12_plain 82 = .ok (.ireturn, 1) := by decide +kernel
theorem dX12_plain_83 : decode cX12_plain 83 = .ok (.aload_n 0, 1) := by decide +kernel
theorem dX12_plain_84 : decode cX12_plain 84 = .ok (.dup, 1) := by decide +kernel
theorem dX12_plain_85 : decode cX12_plain 85 = .ok (.getfield 82, 3) := by decide +kernel
theorem dX12_plain_88 : decode cX12_plain 88 = .ok (.iconst 1, 1) := by decide +kernel
theorem dX12_plain_89 : decode cX12_plain 89 = .ok (.iadd, 1) := by decide +kernel
theorem dX12_plain_90 : decode cX12_plain 90 = .ok (.putfield 82, 3) := by decide +kernel
theorem dX12_plain_93 : decode cX12_plain 93 = .ok (.aload_n 0, 1) := by decide +kernel
theorem dX12_plain_94 : decode cX12_plain 94 = .ok (.invokevirtual 225, 3) := by decide +kernel
theorem dX12_plain_97 : decode cX12_plain 97 = .ok (.istore_n 3, 1) := by decide +kernel
theorem dX12_plain_98 : decode cX12_plain 98 = .ok (.iload_n 2, 1) := by decide +kernel
theorem dX12_plain_99 : decode cX12_plain 99 = .ok (.ifCond .eq 16, 3) := by decide +kernel
theorem dX12_plain_102 : decode cX12_plain 102 = .ok (.iload_n 1, 1) := by decide +kernel
theorem dX12_plain_103 : decode cX12_plain 103 = .ok (.iload_n 3, 1) := by decide +kernel
theorem dX12_plain_104 : decode cX12_plain 104 = .ok (.if_icmp .ge 7, 3) := by decide +kernel
theorem dX12_plain_107 : decode cX12_plain 107 = .ok (.iconst 1, 1) := by decide +kernel
theorem dX12_plain_108 : decode cX12_plain 108 = .ok (.goto 17, 3) := by decide +kernel
theorem dX12_plain_111 : decode cX12_plain 111 = .ok (.iconst 0, 1) := by decide +kernel
theorem dX12_plain_112 : decode cX12_plain 112 = .ok (.goto 13, 3) := by decide +kernel
theorem dX12_plain_115 : decode cX12_plain 115 = .ok (.iload_n 1, 1) := by decide +kernel
theorem dX12_plain_116 : decode cX12_plain 116 = .ok (.iload_n 3, 1) := by decide +kernel
theorem dX12_plain_117 : decode cX12_plain 117 = .ok (.if_icmp .le 7, 3) := by decide +kernel
theorem dX12_plain_120 : decode cX12_plain 120 = .ok (.iconst 1, 1) := by decide +kernel
theorem dX12_plain_121 : decode cX12_plain 121 = .ok (.goto 4, 3) := by decide +kernel
theorem dX12_plain_124 : decode cX12_plain 124 = .ok (.iconst 0, 1) := by decide +kernel
theorem dX12_plain_125 : decode cX12_plain 125 = .ok (.ireturn, 1) := by decide +kernel
theorem dX12_atom_0 : decode cX12_atom 0 = .ok (.aload_n 0, 1) := by decide +kernel
theorem dX12_atom_1 : decode cX12_atom 1 = .ok (.getfield 25, 3) := by decide +kernel
theorem dX12_atom_4 : decode cX12_atom 4 = .ok (.iconst (-1), 1) := by decide +kernel
theorem dX12_atom_5 : decode cX12_atom 5 = .ok (.if_icmp .eq 5, 3) := by decide +kernel
theorem dX12_atom_8 : decode cX12_atom 8 = .ok (.iconst 0, 1) := by decide +kernel
theorem dX12_atom_9 : decode cX12_atom 9 = .ok (.ireturn, 1) := by decide +kernel
theorem dX12_atom_10 : decode cX12_atom 10 = .ok (.aload_n 0, 1) := by decide +kernel
theorem dX12_atom_11 : decode cX12_atom 11 = .ok (.invokevirtual 104, 3) := by decide +kernel
theorem dX12_atom_14 : decode cX12_atom 14 = .ok (.istore_n 1, 1) := by decide +kernel
theorem dX12_atom_15 : decode cX12_atom 15 = .ok (.aload_n 0, 1) := by decide +kernel
theorem dX12_atom_16 : decode cX12_atom 16 = .ok (.ldc 228, 2) := by decide +kernel
theorem dX12_atom_18 : decode cX12_atom 18 = .ok (.invokevirtual 111, 3) := by decide +kernel
theorem dX12_atom_21 : decode cX12_atom 21 = .ok (.istore_n 2, 1) := by decide +kernel
theorem dX12_atom_22 : decode cX12_atom 22 = .ok (.iload_n 2, 1) := by decide +kernel
theorem dX12_atom_23 : decode cX12_atom 23 = .ok (.ifCond .ne 17, 3) := by decide +kernel
theorem dX12_atom_26 : decode cX12_atom 26 = .ok (.aload_n 0, 1) := by decide +kernel
theorem dX12_atom_27 : decode cX12_atom 27 = .ok (.bipush 40, 2) := by decide +kernel
theorem dX12_atom_29 : decode cX12_atom 29 = .ok (.invokevirtual 184, 3) := by decide +kernel
theorem dX12_atom_32 : decode cX12_atom 32 = .ok (.ifCond .ne 8, 3) := by decide +kernel
theorem dX12_atom_35 : decode cX12_atom 35 = .ok (.aload_n 0, 1) := by decide +kernel
theorem dX12_atom_36 : decode cX12_atom 36 = .ok (.invokevirtual 230, 3) := by decide +kernel
theorem dX12_atom_39 : decode cX12_atom 39 = .ok (.ireturn, 1) := by decide +kernel
theorem dX12_atom_40 : decode cX12_atom 40 = .ok (.aload_n 0, 1) := by decide +kernel
theorem dX12_atom_41 : decode cX12_atom 41 = .ok (.getfield 175, 3) := by decide +kernel
theorem dX12_atom_44 : decode cX12_atom 44 = .ok (.bipush 6, 2) := by decide +kernel
theorem dX12_atom_46 : decode cX12_atom 46 = .ok (.if_icmp .ne 10, 3) := by decide +kernel
theorem dX12_atom_49 : decode cX12_atom 49 = .ok (.aload_n 0, 1) := by decide +kernel
theorem dX12_atom_50 : decode cX12_atom 50 = .ok (.iload_n 1, 1) := by decide +kernel
theorem dX12_atom_51 : decode cX12_atom 51 = .ok (.invokevirtual 107, 3) := by decide +kernel
theorem dX12_atom_54 : decode cX12_atom 54 = .ok (.iconst 0, 1) := by decide +kernel
theorem dX12_atom_55 : decode cX12_atom 55 = .ok (.ireturn, 1) := by decide +kernel
theorem dX12_atom_56 : decode cX12_atom 56 = .ok (.aload_n 0, 1) := by decide +kernel
theorem dX12_atom_57 : decode cX12_atom 57 = .ok (.dup, 1) := by decide +kernel
theorem dX12_atom_58 : decode cX12_atom 58 = .ok (.getfield 175, 3) := by decide +kernel
theorem dX12_atom_61 : decode cX12_atom 61 = .ok (.iconst 1, 1) := by decide +kernel
theorem dX12_atom_62 : decode cX12_atom 62 = .ok (.iadd, 1) := by decide +kernel
theorem dX12_atom_63 : decode cX12_atom 63 = .ok (.putfield 175, 3) := by decide +kernel
theorem dX12_atom_66 : decode cX12_atom 66 = .ok (.iconst 0, 1) := by decide +kernel
theorem dX12_atom_67 : decode cX12_atom 67 = .ok (.istore_n 3, 1) := by decide +kernel
theorem dX12_atom_68 : decode cX12_atom 68 = .ok (.iload_n 2, 1) := by decide +kernel
theorem dX12_atom_69 : decode cX12_atom 69 = .ok (.ifCond .eq 19, 3) := by decide +kernel
theorem dX12_atom_72 : decode cX12_atom 72 = .ok (.aload_n 0, 1) := by decide +kernel
theorem dX12_atom_73 : decode cX12_atom 73 = .ok (.invokevirtual 234, 3) := by decide +kernel
theorem dX12_atom_76 : decode cX12_atom 76 = .ok (.ifCond .ne 7, 3) := by decide +kernel
theorem dX12_atom_79 : decode cX12_atom 79 = .ok (.iconst 1, 1) := by decide +kernel
theorem dX12_atom_80 : decode cX12_atom 80 = .ok (.goto 4, 3) := by decide +kernel
theorem dX12_atom_83 : decode cX12_atom 83 = .ok (.iconst 0, 1) := by decide +kernel
theorem dX12_atom_84 : decode cX12_atom 84 = .ok (.istore_n 3, 1) := by decide +kernel
theorem dX12_atom_85 : decode cX12_atom 85 = .ok (.goto 53, 3) := by decide +kernel
theorem dX12_atom_88 : decode cX12_atom 88 = .ok (.aload_n 0, 1) := by decide +kernel
theorem dX12_atom_89 : decode cX12_atom 89 = .ok (.dup, 1) := by decide +kernel
theorem dX12_atom_90 : decode cX12_atom 90 = .ok (.getfield 82, 3) := by decide +kernel
theorem dX12_atom_93 : decode cX12_atom 93 = .ok (.iconst 1, 1) := by decide +kernel
theorem dX12_atom_94 : decode cX12_atom 94 = .ok (.iadd, 1) := by decide +kernel
theorem dX12_atom_95 : decode cX12_atom 95 = .ok (.putfield 82, 3) := by decide +kernel
theorem dX12_atom_98 : decode cX12_atom 98 = .ok (.aload_n 0, 1) := by decide +kernel
theorem dX12_atom_99 : decode cX12_atom 99 = .ok (.invokevirtual 237, 3) := by decide +kernel
theorem dX12_atom_102 : decode cX12_atom 102 = .ok (.istore_n 3, 1) := by decide +kernel
theorem dX12_atom_103 : decode cX12_atom 103 = .ok (.aload_n 0, 1) := by decide +kernel
theorem dX12_atom_104 : decode cX12_atom 104 = .ok (.getfield 25, 3) := by decide +kernel
theorem dX12_atom_107 : decode cX12_atom 107 = .ok (.iconst (-1), 1) := by decide +kernel
theorem dX12_atom_108 : decode cX12_atom 108 = .ok (.if_icmp .ne 20, 3) := by decide +kernel
theorem dX12_atom_111 : decode cX12_atom 111 = .ok (.aload_n 0, 1) := by decide +kernel
theorem dX12_atom_112 : decode cX12_atom 112 = .ok (.bipush 41, 2) := by decide +kernel
theorem dX12_atom_114 : decode cX12_atom 114 = .ok (.invokevirtual 184, 3) := by decide +kernel
theorem dX12_atom_117 : decode cX12_atom 117 = .ok (.ifCond .ne 11, 3) := by decide +kernel
theorem dX12_atom_120 : decode cX12_atom 120 = .ok (.aload_n 0, 1) := by decide +kernel
theorem dX12_atom_121 : decode cX12_atom 121 = .ok (.aload_n 0, 1) := by decide +kernel
theorem dX12_atom_122 : decode cX12_atom 122 = .ok (.getfield 82, 3) := by decide +kernel
theorem dX12_atom_125 : decode cX12_atom 125 = .ok (.invokevirtual 107, 3) := by decide +kernel
theorem dX12_atom_128 : decode cX12_atom 128 = .ok (.aload_n 0, 1) := by decide +kernel
theorem dX12_atom_129 : decode cX12_atom 129 = .ok (.dup, 1) := by decide +kernel
theorem dX12_atom_130 : decode cX12_atom 130 = .ok (.getfield 82, 3) := by decide +kernel
theorem dX12_atom_133 : decode cX12_atom 133 = .ok (.iconst 1, 1) := by decide +kernel
theorem dX12_atom_134 : decode cX12_atom 134 = .ok (.iadd, 1) := by decide +kernel
theorem dX12_atom_135 : decode cX12_atom 135 = .ok (.putfield 82, 3) := by decide +kernel
theorem dX12_atom_138 : decode cX12_atom 138 = .ok (.aload_n 0, 1) := by decide +kernel
theorem dX12_atom_139 : decode cX12_atom 139 = .ok (.dup, 1) := by decide +kernel
theorem dX12_atom_140 : decode cX12_atom 140 = .ok (.getfield 175, 3) := by decide +kernel
theorem dX12_atom_143 : decode cX12_atom 143 = .ok (.iconst 1, 1) := by decide +kernel
theorem dX12_atom_144 : decode cX12_atom 144 = .ok (.isub, 1) := by decide +kernel
theorem dX12_atom_145 : decode cX12_atom 145 = .ok (.putfield 175, 3) := by decide +kernel
theorem dX12_atom_148 : decode cX12_atom 148 = .ok (.iload_n 3, 1) := by decide +kernel
theorem dX12_atom_149 : decode cX12_atom 149 = .ok (.ireturn, 1) := by decide +kernel
theorem dX12_every_0 : decode cX12_every 0 = .ok (.aload_n 0, 1) := by decide +kernel
theorem dX12_every_1 : decode cX12_every 1 = .ok (.invokevirtual 234, 3) := by decide +kernel
theorem dX12_every_4 : decode cX12_every 4 = .ok (.istore_n 1, 1) := by decide +kernel
theorem dX12_every_5 : decode cX12_every 5 = .ok (.aload_n 0, 1) := by decide +kernel
theorem dX12_every_6 : decode cX12_every 6 = .ok (.getfield 25, 3) := by decide +kernel
theorem dX12_every_9 : decode cX12_every 9 = .ok (.iconst (-1), 1) := by decide +kernel
theorem dX12_every_10 : decode cX12_every 10 = .ok (.if_icmp .ne 34, 3) := by decide +kernel
theorem dX12_every_13 : decode cX12_every 13 = .ok (.aload_n 0, 1) := by decide +kernel
theorem dX12_every_14 : decode cX12_every 14 = .ok (.ldc 240, 2) := by decide +kernel
theorem dX12_every_16 : decode cX12_every 16 = .ok (.invokevirtual 111, 3) := by decide +kernel
theorem dX12_every_19 : decode cX12_every 19 = .ok (.ifCond .eq 25, 3) := by decide +kernel
theorem dX12_every_22 : decode cX12_every 22 = .ok (.aload_n 0, 1) := by decide +kernel
theorem dX12_every_23 : decode cX12_every 23 = .ok (.invokevirtual 234, 3) := by decide +kernel
theorem dX12_every_26 : decode cX12_every 26 = .ok (.istore_n 2, 1) := by decide +kernel
theorem dX12_every_27 : decode cX12_every 27 = .ok (.iload_n 1, 1) := by decide +kernel
theorem dX12_every_28 : decode cX12_every 28 = .ok (.ifCond .eq 11, 3) := by decide +kernel
theorem dX12_every_31 : decode cX12_every 31 = .ok (.iload_n 2, 1) := by decide +kernel
theorem dX12_every_32 : decode cX12_every 32 = .ok (.ifCond .eq 7, 3) := by decide +kernel
theorem dX12_every_35 : decode cX12_every 35 = .ok (.iconst 1, 1) := by decide +kernel
theorem dX12_every_36 : decode cX12_every 36 = .ok (.goto 4, 3) := by decide +kernel
theorem dX12_every_39 : decode cX12_every 39 = .ok (.iconst 0, 1) := by decide +kernel
theorem dX12_every_40 : decode cX12_every 40 = .ok (.istore_n 1, 1) := by decide +kernel
theorem dX12_every_41 : decode cX12_every 41 = .ok (.goto (-36), 3) := by decide +kernel
theorem dX12_every_44 : decode cX12_every 44 = .ok (.iload_n 1, 1) := by decide +kernel
theorem dX12_every_45 : decode cX12_every 45 = .ok (.ireturn, 1) := by decide +kernel
theorem dX12_some_0 : decode cX12_some 0 = .ok (.aload_n 0, 1) := by decide +kernel
theorem dX12_some_1 : decode cX12_some 1 = .ok (.invokevirtual 242, 3) := by decide +kernel
theorem dX12_some_4 : decode cX12_some 4 = .ok (.istore_n 1, 1) := by decide +kernel
theorem dX12_some_5 : decode cX12_some 5 = .ok (.aload_n 0, 1) := by decide +kernel
theorem dX12_some_6 : decode cX12_some 6 = .ok (.getfield 25, 3) := by decide +kernel
theorem dX12_some_9 : decode cX12_some 9 = .ok (.iconst (-1), 1) := by decide +kernel
theorem dX12_some_10 : decode cX12_some 10 = .ok (.if_icmp .ne 34, 3) := by decide +kernel
theorem dX12_some_13 : decode cX12_some 13 = .ok (.aload_n 0, 1) := by decide +kernel
theorem dX12_some_14 : decode cX12_some 14 = .ok (.ldc 245, 2) := by decide +kernel
theorem dX12_some_16 : decode cX12_some 16 = .ok (.invokevirtual 111, 3) := by decide +kernel
theorem dX12_some_19 : decode cX12_some 19 = .ok (.ifCond .eq 25, 3) := by decide +kernel
theorem dX12_some_22 : decode cX12_some 22 = .ok (.aload_n 0, 1) := by decide +kernel
theorem dX12_some_23 : decode cX12_some 23 = .ok (.invokevirtual 242, 3) := by decide +kernel
theorem dX12_some_26 : decode cX12_some 26 = .ok (.istore_n 2, 1) := by decide +kernel
theorem dX12_some_27 : decode cX12_some 27 = .ok (.iload_n 1, 1) := by decide +kernel
theorem dX12_some_28 : decode cX12_some 28 = .ok (.ifCond .ne 7, 3) := by decide +kernel
theorem dX12_some_31 : decode cX12_some 31 = .ok (.iload_n 2, 1) := by decide +kernel
theorem dX12_some_32 : decode cX12_some 32 = .ok (.ifCond .eq 7, 3) := by decide +kernel
theorem dX12_some_35 : decode cX12_some 35 = .ok (.iconst 1, 1) := by decide +kernel
theorem dX12_some_36 : decode cX12_some 36 = .ok (.goto 4, 3) := by decide +kernel
theorem dX12_some_39 : decode cX12_some 39 = .ok (.iconst 0, 1) := by decide +kernel
theorem dX12_some_40 : decode cX12_some 40 = .ok (.istore_n 1, 1) := by decide +kernel
theorem dX12_some_41 : decode cX12_some 41 = .ok (.goto (-36), 3) := by decide +kernel
theorem dX12_some_44 : decode cX12_some 44 = .ok (.iload_n 1, 1) := by decide +kernel
theorem dX12_some_45 : decode cX12_some 45 = .ok (.ireturn, 1) := by decide +kernel
theorem dX12_lawLine_0 : decode cX12_lawLine 0 = .ok (.aload_n 0, 1) := by decide +kernel
theorem dX12_lawLine_1 : decode cX12_lawLine 1 = .ok (.ldc 247, 2) := by decide +kernel
theorem dX12_lawLine_3 : decode cX12_lawLine 3 = .ok (.invokevirtual 111, 3) := by decide +kernel
theorem dX12_lawLine_6 : decode cX12_lawLine 6 = .ok (.istore_n 1, 1) := by decide +kernel
theorem dX12_lawLine_7 : decode cX12_lawLine 7 = .ok (.iload_n 1, 1) := by decide +kernel
theorem dX12_lawLine_8 : decode cX12_lawLine 8 = .ok (.ifCond .ne 21, 3) := by decide +kernel
theorem dX12_lawLine_11 : decode cX12_lawLine 11 = .ok (.aload_n 0, 1) := by decide +kernel
theorem dX12_lawLine_12 : decode cX12_lawLine 12 = .ok (.ldc 249, 2) := by decide +kernel
theorem dX12_lawLine_14 : decode cX12_lawLine 14 = .ok (.invokevirtual 111, 3) := by decide +kernel
theorem dX12_lawLine_17 : decode cX12_lawLine 17 = .ok (.ifCond .ne 12, 3) := by decide +kernel
theorem dX12_lawLine_20 : decode cX12_lawLine 20 = .ok (.aload_n 0, 1) := by decide +kernel
theorem dX12_lawLine_21 : decode cX12_lawLine 21 = .ok (.aload_n 0, 1) := by decide +kernel
theorem dX12_lawLine_22 : decode cX12_lawLine 22 = .ok (.getfield 82, 3) := by decide +kernel
theorem dX12_lawLine_25 : decode cX12_lawLine 25 = .ok (.invokevirtual 107, 3) := by decide +kernel
theorem dX12_lawLine_28 : decode cX12_lawLine 28 = .ok (.return_, 1) := by decide +kernel
theorem dX12_lawLine_29 : decode cX12_lawLine 29 = .ok (.aload_n 0, 1) := by decide +kernel
theorem dX12_lawLine_30 : decode cX12_lawLine 30 = .ok (.iconst 0, 1) := by decide +kernel
theorem dX12_lawLine_31 : decode cX12_lawLine 31 = .ok (.bipush 30, 2) := by decide +kernel
theorem dX12_lawLine_33 : decode cX12_lawLine 33 = .ok (.invokevirtual 115, 3) := by decide +kernel
theorem dX12_lawLine_36 : decode cX12_lawLine 36 = .ok (.istore_n 2, 1) := by decide +kernel
theorem dX12_lawLine_37 : decode cX12_lawLine 37 = .ok (.aload_n 0, 1) := by decide +kernel
theorem dX12_lawLine_38 : decode cX12_lawLine 38 = .ok (.getfield 25, 3) := by decide +kernel
theorem dX12_lawLine_41 : decode cX12_lawLine 41 = .ok (.iconst (-1), 1) := by decide +kernel
theorem dX12_lawLine_42 : decode cX12_lawLine 42 = .ok (.if_icmp .eq 4, 3) := by decide +kernel
theorem dX12_lawLine_45 : decode cX12_lawLine 45 = .ok (.return_, 1) := by decide +kernel
theorem dX12_lawLine_46 : decode cX12_lawLine 46 = .ok (.aload_n 0, 1) := by decide +kernel
theorem dX12_lawLine_47 : decode cX12_lawLine 47 = .ok (.ldc 251, 2) := by decide +kernel
theorem dX12_lawLine_49 : decode cX12_lawLine 49 = .ok (.invokevirtual 111, 3) := by decide +kernel
theorem dX12_lawLine_52 : decode cX12_lawLine 52 = .ok (.ifCond .eq 10, 3) := by decide +kernel
theorem dX12_lawLine_55 : decode cX12_lawLine 55 = .ok (.aload_n 0, 1) := by decide +kernel
theorem dX12_lawLine_56 : decode cX12_lawLine 56 = .ok (.invokevirtual 237, 3) := by decide +kernel
theorem dX12_lawLine_59 : decode cX12_lawLine 59 = .ok (.ifCond .eq 7, 3) := by decide +kernel
theorem dX12_lawLine_62 : decode cX12_lawLine 62 = .ok (.iconst 1, 1) := by decide +kernel
theorem dX12_lawLine_63 : decode cX12_lawLine 63 = .ok (.goto 4, 3) := by decide +kernel
theorem dX12_lawLine_66 : decode cX12_lawLine 66 = .ok (.iconst 0, 1) := by decide +kernel
theorem dX12_lawLine_67 : decode cX12_lawLine 67 = .ok (.istore_n 3, 1) := by decide +kernel
theorem dX12_lawLine_68 : decode cX12_lawLine 68 = .ok (.aload_n 0, 1) := by decide +kernel
theorem dX12_lawLine_69 : decode cX12_lawLine 69 = .ok (.getfield 25, 3) := by decide +kernel
theorem dX12_lawLine_72 : decode cX12_lawLine 72 = .ok (.iconst (-1), 1) := by decide +kernel
theorem dX12_lawLine_73 : decode cX12_lawLine 73 = .ok (.if_icmp .ne 26, 3) := by decide +kernel
theorem dX12_lawLine_76 : decode cX12_lawLine 76 = .ok (.iload_n 3, 1) := by decide +kernel
theorem dX12_lawLine_77 : decode cX12_lawLine 77 = .ok (.ifCond .eq 22, 3) := by decide +kernel
theorem dX12_lawLine_80 : decode cX12_lawLine 80 = .ok (.aload_n 0, 1) := by decide +kernel
theorem dX12_lawLine_81 : decode cX12_lawLine 81 = .ok (.dup, 1) := by decide +kernel
theorem dX12_lawLine_82 : decode cX12_lawLine 82 = .ok (.getfield 253, 3) := by decide +kernel
theorem dX12_lawLine_85 : decode cX12_lawLine 85 = .ok (.iload_n 1, 1) := by decide +kernel
theorem dX12_lawLine_86 : decode cX12_lawLine 86 = .ok (.ifCond .eq 7, 3) := by decide +kernel
theorem dX12_lawLine_89 : decode cX12_lawLine 89 = .ok (.iload_n 2, 1) := by decide +kernel
theorem dX12_lawLine_90 : decode cX12_lawLine 90 = .ok (.goto 5, 3) := by decide +kernel
theorem dX12_lawLine_93 : decode cX12_lawLine 93 = .ok (.iload_n 2, 1) := by decide +kernel
theorem dX12_lawLine_94 : decode cX12_lawLine 94 = .ok (.ineg, 1) := by decide +kernel
theorem dX12_lawLine_95 : decode cX12_lawLine 95 = .ok (.iadd, 1) := by decide +kernel
theorem dX12_lawLine_96 : decode cX12_lawLine 96 = .ok (.putfield 253, 3) := by decide +kernel
theorem dX12_lawLine_99 : decode cX12_lawLine 99 = .ok (.return_, 1) := by decide +kernel
theorem dX12_law_0 : decode cX12_law 0 = .ok (.aload_n 0, 1) := by decide +kernel
theorem dX12_law_1 : decode cX12_law 1 = .ok (.invokevirtual 191, 3) := by decide +kernel
theorem dX12_law_4 : decode cX12_law 4 = .ok (.aload_n 0, 1) := by decide +kernel
theorem dX12_law_5 : decode cX12_law 5 = .ok (.iconst 1, 1) := by decide +kernel
theorem dX12_law_6 : decode cX12_law 6 = .ok (.invokevirtual 194, 3) := by decide +kernel
theorem dX12_law_9 : decode cX12_law 9 = .ok (.istore_n 1, 1) := by decide +kernel
theorem dX12_law_10 : decode cX12_law 10 = .ok (.aload_n 0, 1) := by decide +kernel
theorem dX12_law_11 : decode cX12_law 11 = .ok (.aload_n 0, 1) := by decide +kernel
theorem dX12_law_12 : decode cX12_law 12 = .ok (.getfield 25, 3) := by decide +kernel
theorem dX12_law_15 : decode cX12_law 15 = .ok (.iconst (-1), 1) := by decide +kernel
theorem dX12_law_16 : decode cX12_law 16 = .ok (.if_icmp .eq 7, 3) := by decide +kernel
theorem dX12_law_19 : decode cX12_law 19 = .ok (.iconst 1, 1) := by decide +kernel
theorem dX12_law_20 : decode cX12_law 20 = .ok (.goto 4, 3) := by decide +kernel
theorem dX12_law_23 : decode cX12_law 23 = .ok (.iconst 0, 1) := by decide +kernel
theorem dX12_law_24 : decode cX12_law 24 = .ok (.putfield 51, 3) := by decide +kernel
theorem dX12_law_27 : decode cX12_law 27 = .ok (.aload_n 0, 1) := by decide +kernel
theorem dX12_law_28 : decode cX12_law 28 = .ok (.getfield 51, 3) := by decide +kernel
theorem dX12_law_31 : decode cX12_law 31 = .ok (.ifCond .le 5, 3) := by decide +kernel
theorem dX12_law_34 : decode cX12_law 34 = .ok (.iconst 0, 1) := by decide +kernel
theorem dX12_law_35 : decode cX12_law 35 = .ok (.ireturn, 1) := by decide +kernel
theorem dX12_law_36 : decode cX12_law 36 = .ok (.aload_n 0, 1) := by decide +kernel
theorem dX12_law_37 : decode cX12_law 37 = .ok (.getfield 7, 3) := by decide +kernel
theorem dX12_law_40 : decode cX12_law 40 = .ok (.iconst 1, 1) := by decide +kernel
theorem dX12_law_41 : decode cX12_law 41 = .ok (.iload_n 1, 1) := by decide +kernel
theorem dX12_law_42 : decode cX12_law 42 = .ok (.iastore, 1) := by decide +kernel
theorem dX12_law_43 : decode cX12_law 43 = .ok (.aload_n 0, 1) := by decide +kernel
theorem dX12_law_44 : decode cX12_law 44 = .ok (.getfield 7, 3) := by decide +kernel
theorem dX12_law_47 : decode cX12_law 47 = .ok (.iconst 2, 1) := by decide +kernel
theorem dX12_law_48 : decode cX12_law 48 = .ok (.aload_n 0, 1) := by decide +kernel
theorem dX12_law_49 : decode cX12_law 49 = .ok (.getfield 85, 3) := by decide +kernel
theorem dX12_law_52 : decode cX12_law 52 = .ok (.iastore, 1) := by decide +kernel
theorem dX12_law_53 : decode cX12_law 53 = .ok (.iconst 0, 1) := by decide +kernel
theorem dX12_law_54 : decode cX12_law 54 = .ok (.istore_n 2, 1) := by decide +kernel
theorem dX12_law_55 : decode cX12_law 55 = .ok (.iload_n 2, 1) := by decide +kernel
theorem dX12_law_56 : decode cX12_law 56 = .ok (.aload_n 0, 1) := by decide +kernel
theorem dX12_law_57 : decode cX12_law 57 = .ok (.getfield 85, 3) := by decide +kernel
theorem dX12_law_60 : decode cX12_law 60 = .ok (.if_icmp .ge 25, 3) := by decide +kernel
theorem dX12_law_63 : decode cX12_law 63 = .ok (.aload_n 0, 1) := by decide +kernel
theorem dX12_law_64 : decode cX12_law 64 = .ok (.getfield 7, 3) := by decide +kernel
theorem dX12_law_67 : decode cX12_law 67 = .ok (.sipush 450, 3) := by decide +kernel
theorem dX12_law_70 : decode cX12_law 70 = .ok (.iload_n 2, 1) := by decide +kernel
theorem dX12_law_71 : decode cX12_law 71 = .ok (.iadd, 1) := by decide +kernel
theorem dX12_law_72 : decode cX12_law 72 = .ok (.aload_n 0, 1) := by decide +kernel
theorem dX12_law_73 : decode cX12_law 73 = .ok (.getfield 22, 3) := by decide +kernel
theorem dX12_law_76 : decode cX12_law 76 = .ok (.iload_n 2, 1) := by decide +kernel
theorem dX12_law_77 : decode cX12_law 77 = .ok (.iaload, 1) := by decide +kernel
theorem dX12_law_78 : decode cX12_law 78 = .ok (.iastore, 1) := by decide +kernel
theorem dX12_law_79 : decode cX12_law 79 = .ok (.iinc 2 1, 3) := by decide +kernel
theorem dX12_law_82 : decode cX12_law 82 = .ok (.goto (-27), 3) := by decide +kernel
theorem dX12_law_85 : decode cX12_law 85 = .ok (.aload_n 0, 1) := by decide +kernel
theorem dX12_law_86 : decode cX12_law 86 = .ok (.iconst 0, 1) := by decide +kernel
theorem dX12_law_87 : decode cX12_law 87 = .ok (.putfield 201, 3) := by decide +kernel
theorem dX12_law_90 : decode cX12_law 90 = .ok (.iload_n 1, 1) := by decide +kernel
theorem dX12_law_91 : decode cX12_law 91 = .ok (.ireturn, 1) := by decide +kernel
theorem dX12_fault_0 : decode cX12_fault 0 = .ok (.aload_n 0, 1) := by decide +kernel
theorem dX12_fault_1 : decode cX12_fault 1 = .ok (.iconst 0, 1) := by decide +kernel
theorem dX12_fault_2 : decode cX12_fault 2 = .ok (.putfield 51, 3) := by decide +kernel
theorem dX12_fault_5 : decode cX12_fault 5 = .ok (.aload_n 0, 1) := by decide +kernel
theorem dX12_fault_6 : decode cX12_fault 6 = .ok (.getfield 25, 3) := by decide +kernel
theorem dX12_fault_9 : decode cX12_fault 9 = .ok (.ireturn, 1) := by decide +kernel
theorem dX12_turnsBy_0 : decode cX12_turnsBy 0 = .ok (.aload_n 0, 1) := by decide +kernel
theorem dX12_turnsBy_1 : decode cX12_turnsBy 1 = .ok (.iload_n 1, 1) := by decide +kernel
theorem dX12_turnsBy_2 : decode cX12_turnsBy 2 = .ok (.iconst 0, 1) := by decide +kernel
theorem dX12_turnsBy_3 : decode cX12_turnsBy 3 = .ok (.invokevirtual 58, 3) := by decide +kernel
theorem dX12_turnsBy_6 : decode cX12_turnsBy 6 = .ok (.istore_n 3, 1) := by decide +kernel
theorem dX12_turnsBy_7 : decode cX12_turnsBy 7 = .ok (.aload_n 0, 1) := by decide +kernel
theorem dX12_turnsBy_8 : decode cX12_turnsBy 8 = .ok (.iload_n 1, 1) := by decide +kernel
theorem dX12_turnsBy_9 : decode cX12_turnsBy 9 = .ok (.iconst 1, 1) := by decide +kernel
theorem dX12_turnsBy_10 : decode cX12_turnsBy 10 = .ok (.invokevirtual 58, 3) := by decide +kernel
theorem dX12_turnsBy_13 : decode cX12_turnsBy 13 = .ok (.istore 4, 2) := by decide +kernel
theorem dX12_turnsBy_15 : decode cX12_turnsBy 15 = .ok (.aload_n 0, 1) := by decide +kernel
theorem dX12_turnsBy_16 : decode cX12_turnsBy 16 = .ok (.getfield 29, 3) := by decide +kernel
theorem dX12_turnsBy_19 : decode cX12_turnsBy 19 = .ok (.iconst 0, 1) := by decide +kernel
theorem dX12_turnsBy_20 : decode cX12_turnsBy 20 = .ok (.aload_n 0, 1) := by decide +kernel
theorem dX12_turnsBy_21 : decode cX12_turnsBy 21 = .ok (.iload_n 1, 1) := by decide +kernel
theorem dX12_turnsBy_22 : decode cX12_turnsBy 22 = .ok (.iconst 2, 1) := by decide +kernel
theorem dX12_turnsBy_23 : decode cX12_turnsBy 23 = .ok (.invokevirtual 58, 3) := by decide +kernel
theorem dX12_turnsBy_26 : decode cX12_turnsBy 26 = .ok (.iastore, 1) := by decide +kernel
theorem dX12_turnsBy_27 : decode cX12_turnsBy 27 = .ok (.aload_n 0, 1) := by decide +kernel
theorem dX12_turnsBy_28 : decode cX12_turnsBy 28 = .ok (.getfield 29, 3) := by decide +kernel
theorem dX12_turnsBy_31 : decode cX12_turnsBy 31 = .ok (.iconst 1, 1) := by decide +kernel
theorem dX12_turnsBy_32 : decode cX12_turnsBy 32 = .ok (.aload_n 0, 1) := by decide +kernel
theorem dX12_turnsBy_33 : decode cX12_turnsBy 33 = .ok (.iload_n 1, 1) := by decide +kernel
theorem dX12_turnsBy_34 : decode cX12_turnsBy 34 = .ok (.iconst 3, 1) := by decide +kernel
theorem dX12_turnsBy_35 : decode cX12_turnsBy 35 = .ok (.invokevirtual 58, 3) := by decide +kernel
theorem dX12_turnsBy_38 : decode cX12_turnsBy 38 = .ok (.iastore, 1) := by decide +kernel
theorem dX12_turnsBy_39 : decode cX12_turnsBy 39 = .ok (.aload_n 0, 1) := by decide +kernel
theorem dX12_turnsBy_40 : decode cX12_turnsBy 40 = .ok (.getfield 29, 3) := by decide +kernel
theorem dX12_turnsBy_43 : decode cX12_turnsBy 43 = .ok (.iconst 2, 1) := by decide +kernel
theorem dX12_turnsBy_44 : decode cX12_turnsBy 44 = .ok (.iload_n 2, 1) := by decide +kernel
theorem dX12_turnsBy_45 : decode cX12_turnsBy 45 = .ok (.iastore, 1) := by decide +kernel
theorem dX12_turnsBy_46 : decode cX12_turnsBy 46 = .ok (.aload_n 0, 1) := by decide +kernel
theorem dX12_turnsBy_47 : decode cX12_turnsBy 47 = .ok (.getfield 29, 3) := by decide +kernel
theorem dX12_turnsBy_50 : decode cX12_turnsBy 50 = .ok (.iconst 3, 1) := by decide +kernel
theorem dX12_turnsBy_51 : decode cX12_turnsBy 51 = .ok (.aload_n 0, 1) := by decide +kernel
theorem dX12_turnsBy_52 : decode cX12_turnsBy 52 = .ok (.iload_n 1, 1) := by decide +kernel
theorem dX12_turnsBy_53 : decode cX12_turnsBy 53 = .ok (.invokevirtual 256, 3) := by decide +kernel
theorem dX12_turnsBy_56 : decode cX12_turnsBy 56 = .ok (.invokestatic 69, 3) := by decide +kernel
theorem dX12_turnsBy_59 : decode cX12_turnsBy 59 = .ok (.iastore, 1) := by decide +kernel
theorem dX12_turnsBy_60 : decode cX12_turnsBy 60 = .ok (.aload_n 0, 1) := by decide +kernel
theorem dX12_turnsBy_61 : decode cX12_turnsBy 61 = .ok (.getfield 29, 3) := by decide +kernel
theorem dX12_turnsBy_64 : decode cX12_turnsBy 64 = .ok (.iconst 4, 1) := by decide +kernel
theorem dX12_turnsBy_65 : decode cX12_turnsBy 65 = .ok (.aload_n 0, 1) := by decide +kernel
theorem dX12_turnsBy_66 : decode cX12_turnsBy 66 = .ok (.iload_n 3, 1) := by decide +kernel
theorem dX12_turnsBy_67 : decode cX12_turnsBy 67 = .ok (.iload 4, 2) := by decide +kernel
theorem dX12_turnsBy_69 : decode cX12_turnsBy 69 = .ok (.invokevirtual 258, 3) := by decide +kernel
theorem dX12_turnsBy_72 : decode cX12_turnsBy 72 = .ok (.aload_n 0, 1) := by decide +kernel
theorem dX12_turnsBy_73 : decode cX12_turnsBy 73 = .ok (.iload 4, 2) := by decide +kernel
theorem dX12_turnsBy_75 : decode cX12_turnsBy 75 = .ok (.iload_n 3, 1) := by decide +kernel
theorem dX12_turnsBy_76 : decode cX12_turnsBy 76 = .ok (.invokevirtual 258, 3) := by decide +kernel
theorem dX12_turnsBy_79 : decode cX12_turnsBy 79 = .ok (.iadd, 1) := by decide +kernel
theorem dX12_turnsBy_80 : decode cX12_turnsBy 80 = .ok (.iastore, 1) := by decide +kernel
theorem dX12_turnsBy_81 : decode cX12_turnsBy 81 = .ok (.aload_n 0, 1) := by decide +kernel
theorem dX12_turnsBy_82 : decode cX12_turnsBy 82 = .ok (.getfield 29, 3) := by decide +kernel
theorem dX12_turnsBy_85 : decode cX12_turnsBy 85 = .ok (.iconst 5, 1) := by decide +kernel
theorem dX12_turnsBy_86 : decode cX12_turnsBy 86 = .ok (.aload_n 0, 1) := by decide +kernel
theorem dX12_turnsBy_87 : decode cX12_turnsBy 87 = .ok (.getfield 7, 3) := by decide +kernel
theorem dX12_turnsBy_90 : decode cX12_turnsBy 90 = .ok (.bipush 8, 2) := by decide +kernel
theorem dX12_turnsBy_92 : decode cX12_turnsBy 92 = .ok (.iaload, 1) := by decide +kernel
theorem dX12_turnsBy_93 : decode cX12_turnsBy 93 = .ok (.bipush 12, 2) := by decide +kernel
theorem dX12_turnsBy_95 : decode cX12_turnsBy 95 = .ok (.irem, 1) := by decide +kernel
theorem dX12_turnsBy_96 : decode cX12_turnsBy 96 = .ok (.iastore, 1) := by decide +kernel
theorem dX12_turnsBy_97 : decode cX12_turnsBy 97 = .ok (.aload_n 0, 1) := by decide +kernel
theorem dX12_turnsBy_98 : decode cX12_turnsBy 98 = .ok (.aload_n 0, 1) := by decide +kernel
theorem dX12_turnsBy_99 : decode cX12_turnsBy 99 = .ok (.iload_n 3, 1) := by decide +kernel
theorem dX12_turnsBy_100 : decode cX12_turnsBy 100 = .ok (.iconst 0, 1) := by decide +kernel
theorem dX12_turnsBy_101 : decode cX12_turnsBy 101 = .ok (.invokevirtual 62, 3) := by decide +kernel
theorem dX12_turnsBy_104 : decode cX12_turnsBy 104 = .ok (.aload_n 0, 1) := by decide +kernel
theorem dX12_turnsBy_105 : decode cX12_turnsBy 105 = .ok (.iload 4, 2) := by decide +kernel
theorem dX12_turnsBy_107 : decode cX12_turnsBy 107 = .ok (.iconst 0, 1) := by decide +kernel
theorem dX12_turnsBy_108 : decode cX12_turnsBy 108 = .ok (.invokevirtual 62, 3) := by decide +kernel
theorem dX12_turnsBy_111 : decode cX12_turnsBy 111 = .ok (.iadd, 1) := by decide +kernel
theorem dX12_turnsBy_112 : decode cX12_turnsBy 112 = .ok (.bipush 99, 2) := by decide +kernel
theorem dX12_turnsBy_114 : decode cX12_turnsBy 114 = .ok (.if_icmp .le 7, 3) := by decide +kernel
theorem dX12_turnsBy_117 : decode cX12_turnsBy 117 = .ok (.iconst 1, 1) := by decide +kernel
theorem dX12_turnsBy_118 : decode cX12_turnsBy 118 = .ok (.goto 4, 3) := by decide +kernel
theorem dX12_turnsBy_121 : decode cX12_turnsBy 121 = .ok (.iconst 0, 1) := by decide +kernel
theorem dX12_turnsBy_122 : decode cX12_turnsBy 122 = .ok (.putfield 221, 3) := by decide +kernel
theorem dX12_turnsBy_125 : decode cX12_turnsBy 125 = .ok (.aload_n 0, 1) := by decide +kernel
theorem dX12_turnsBy_126 : decode cX12_turnsBy 126 = .ok (.getfield 7, 3) := by decide +kernel
theorem dX12_turnsBy_129 : decode cX12_turnsBy 129 = .ok (.iconst 1, 1) := by decide +kernel
theorem dX12_turnsBy_130 : decode cX12_turnsBy 130 = .ok (.iaload, 1) := by decide +kernel
theorem dX12_turnsBy_131 : decode cX12_turnsBy 131 = .ok (.iconst (-1), 1) := by decide +kernel
theorem dX12_turnsBy_132 : decode cX12_turnsBy 132 = .ok (.if_icmp .ne 12, 3) := by decide +kernel
theorem dX12_turnsBy_135 : decode cX12_turnsBy 135 = .ok (.aload_n 0, 1) := by decide +kernel
theorem dX12_turnsBy_136 : decode cX12_turnsBy 136 = .ok (.getfield 29, 3) := by decide +kernel
theorem dX12_turnsBy_139 : decode cX12_turnsBy 139 = .ok (.iconst 4, 1) := by decide +kernel
theorem dX12_turnsBy_140 : decode cX12_turnsBy 140 = .ok (.iaload, 1) := by decide +kernel
theorem dX12_turnsBy_141 : decode cX12_turnsBy 141 = .ok (.iload_n 2, 1) := by decide +kernel
theorem dX12_turnsBy_142 : decode cX12_turnsBy 142 = .ok (.isub, 1) := by decide +kernel
theorem dX12_turnsBy_143 : decode cX12_turnsBy 143 = .ok (.ireturn, 1) := by decide +kernel
theorem dX12_turnsBy_144 : decode cX12_turnsBy 144 = .ok (.aload_n 0, 1) := by decide +kernel
theorem dX12_turnsBy_145 : decode cX12_turnsBy 145 = .ok (.iconst 0, 1) := by decide +kernel
theorem dX12_turnsBy_146 : decode cX12_turnsBy 146 = .ok (.putfield 253, 3) := by decide +kernel
theorem dX12_turnsBy_149 : decode cX12_turnsBy 149 = .ok (.aload_n 0, 1) := by decide +kernel
theorem dX12_turnsBy_150 : decode cX12_turnsBy 150 = .ok (.getfield 25, 3) := by decide +kernel
theorem dX12_turnsBy_153 : decode cX12_turnsBy 153 = .ok (.istore 5, 2) := by decide +kernel
theorem dX12_turnsBy_155 : decode cX12_turnsBy 155 = .ok (.aload_n 0, 1) := by decide +kernel
theorem dX12_turnsBy_156 : decode cX12_turnsBy 156 = .ok (.iconst (-1), 1) := by decide +kernel
theorem dX12_turnsBy_157 : decode cX12_turnsBy 157 = .ok (.putfield 25, 3) := by decide +kernel
theorem dX12_turnsBy_160 : decode cX12_turnsBy 160 = .ok (.aload_n 0, 1) := by decide +kernel
theorem dX12_turnsBy_161 : decode cX12_turnsBy 161 = .ok (.sipush 450, 3) := by decide +kernel
theorem dX12_turnsBy_164 : decode cX12_turnsBy 164 = .ok (.putfield 79, 3) := by decide +kernel
theorem dX12_turnsBy_167 : decode cX12_turnsBy 167 = .ok (.aload_n 0, 1) := by decide +kernel
theorem dX12_turnsBy_168 : decode cX12_turnsBy 168 = .ok (.aload_n 0, 1) := by decide +kernel
theorem dX12_turnsBy_169 : decode cX12_turnsBy 169 = .ok (.getfield 7, 3) := by decide +kernel
theorem dX12_turnsBy_172 : decode cX12_turnsBy 172 = .ok (.iconst 2, 1) := by decide +kernel
theorem dX12_turnsBy_173 : decode cX12_turnsBy 173 = .ok (.iaload, 1) := by decide +kernel
theorem dX12_turnsBy_174 : decode cX12_turnsBy 174 = .ok (.putfield 85, 3) := by decide +kernel
theorem dX12_turnsBy_177 : decode cX12_turnsBy 177 = .ok (.aload_n 0, 1) := by decide +kernel
theorem dX12_turnsBy_178 : decode cX12_turnsBy 178 = .ok (.iconst 0, 1) := by decide +kernel
theorem dX12_turnsBy_179 : decode cX12_turnsBy 179 = .ok (.putfield 82, 3) := by decide +kernel
theorem dX12_turnsBy_182 : decode cX12_turnsBy 182 = .ok (.aload_n 0, 1) := by decide +kernel
theorem dX12_turnsBy_183 : decode cX12_turnsBy 183 = .ok (.iconst 0, 1) := by decide +kernel
theorem dX12_turnsBy_184 : decode cX12_turnsBy 184 = .ok (.putfield 175, 3) := by decide +kernel
theorem dX12_turnsBy_187 : decode cX12_turnsBy 187 = .ok (.aload_n 0, 1) := by decide +kernel
theorem dX12_turnsBy_188 : decode cX12_turnsBy 188 = .ok (.iconst 1, 1) := by decide +kernel
theorem dX12_turnsBy_189 : decode cX12_turnsBy 189 = .ok (.invokevirtual 194, 3) := by decide +kernel
theorem dX12_turnsBy_192 : decode cX12_turnsBy 192 = .ok (.istore 6, 2) := by decide +kernel
theorem dX12_turnsBy_194 : decode cX12_turnsBy 194 = .ok (.aload_n 0, 1) := by decide +kernel
theorem dX12_turnsBy_195 : decode cX12_turnsBy 195 = .ok (.iload 5, 2) := by decide +kernel
theorem dX12_turnsBy_197 : decode cX12_turnsBy 197 = .ok (.putfield 25, 3) := by decide +kernel
theorem dX12_turnsBy_200 : decode cX12_turnsBy 200 = .ok (.aload_n 0, 1) := by decide +kernel
theorem dX12_turnsBy_201 : decode cX12_turnsBy 201 = .ok (.getfield 253, 3) := by decide +kernel
theorem dX12_turnsBy_204 : decode cX12_turnsBy 204 = .ok (.ireturn, 1) := by decide +kernel
theorem dX12_nextOf_0 : decode cX12_nextOf 0 = .ok (.iconst 0, 1) := by decide +kernel
theorem dX12_nextOf_1 : decode cX12_nextOf 1 = .ok (.bipush 99, 2) := by decide +kernel
theorem dX12_nextOf_3 : decode cX12_nextOf 3 = .ok (.aload_n 0, 1) := by decide +kernel
theorem dX12_nextOf_4 : decode cX12_nextOf 4 = .ok (.iload_n 1, 1) := by decide +kernel
theorem dX12_nextOf_5 : decode cX12_nextOf 5 = .ok (.iconst 2, 1) := by decide +kernel
theorem dX12_nextOf_6 : decode cX12_nextOf 6 = .ok (.invokevirtual 58, 3) := by decide +kernel
theorem dX12_nextOf_9 : decode cX12_nextOf 9 = .ok (.aload_n 0, 1) := by decide +kernel
theorem dX12_nextOf_10 : decode cX12_nextOf 10 = .ok (.iload_n 1, 1) := by decide +kernel
theorem dX12_nextOf_11 : decode cX12_nextOf 11 = .ok (.iload_n 2, 1) := by decide +kernel
theorem dX12_nextOf_12 : decode cX12_nextOf 12 = .ok (.invokevirtual 260, 3) := by decide +kernel
theorem dX12_nextOf_15 : decode cX12_nextOf 15 = .ok (.iadd, 1) := by decide +kernel
theorem dX12_nextOf_16 : decode cX12_nextOf 16 = .ok (.invokestatic 263, 3) := by decide +kernel
theorem dX12_nextOf_19 : decode cX12_nextOf 19 = .ok (.invokestatic 266, 3) := by decide +kernel
theorem dX12_nextOf_22 : decode cX12_nextOf 22 = .ok (.ireturn, 1) := by decide +kernel
theorem dX12_gets_0 : decode cX12_gets 0 = .ok (.aload_n 0, 1) := by decide +kernel
theorem dX12_gets_1 : decode cX12_gets 1 = .ok (.iload_n 1, 1) := by decide +kernel
theorem dX12_gets_2 : decode cX12_gets 2 = .ok (.iconst 0, 1) := by decide +kernel
theorem dX12_gets_3 : decode cX12_gets 3 = .ok (.sipush 999, 3) := by decide +kernel
theorem dX12_gets_6 : decode cX12_gets 6 = .ok (.aload_n 0, 1) := by decide +kernel
theorem dX12_gets_7 : decode cX12_gets 7 = .ok (.iload_n 1, 1) := by decide +kernel
theorem dX12_gets_8 : decode cX12_gets 8 = .ok (.iconst 0, 1) := by decide +kernel
theorem dX12_gets_9 : decode cX12_gets 9 = .ok (.invokevirtual 62, 3) := by decide +kernel
theorem dX12_gets_12 : decode cX12_gets 12 = .ok (.iload_n 2, 1) := by decide +kernel
theorem dX12_gets_13 : decode cX12_gets 13 = .ok (.iadd, 1) := by decide +kernel
theorem dX12_gets_14 : decode cX12_gets 14 = .ok (.invokestatic 263, 3) := by decide +kernel
theorem dX12_gets_17 : decode cX12_gets 17 = .ok (.invokevirtual 144, 3) := by decide +kernel
theorem dX12_gets_20 : decode cX12_gets 20 = .ok (.return_, 1) := by decide +kernel
theorem dX12_gives_0 : decode cX12_gives 0 = .ok (.iload_n 2, 1) := by decide +kernel
theorem dX12_gives_1 : decode cX12_gives 1 = .ok (.aload_n 0, 1) := by decide +kernel
theorem dX12_gives_2 : decode cX12_gives 2 = .ok (.iload_n 1, 1) := by decide +kernel
theorem dX12_gives_3 : decode cX12_gives 3 = .ok (.iconst 0, 1) := by decide +kernel
theorem dX12_gives_4 : decode cX12_gives 4 = .ok (.invokevirtual 62, 3) := by decide +kernel
theorem dX12_gives_7 : decode cX12_gives 7 = .ok (.invokestatic 263, 3) := by decide +kernel
theorem dX12_gives_10 : decode cX12_gives 10 = .ok (.istore_n 3, 1) := by decide +kernel
theorem dX12_gives_11 : decode cX12_gives 11 = .ok (.iload_n 3, 1) := by decide +kernel
theorem dX12_gives_12 : decode cX12_gives 12 = .ok (.iload_n 2, 1) := by decide +kernel
theorem dX12_gives_13 : decode cX12_gives 13 = .ok (.if_icmp .ge 10, 3) := by decide +kernel
theorem dX12_gives_16 : decode cX12_gives 16 = .ok (.aload_n 0, 1) := by decide +kernel
theorem dX12_gives_17 : decode cX12_gives 17 = .ok (.iload_n 1, 1) := by decide +kernel
theorem dX12_gives_18 : decode cX12_gives 18 = .ok (.iconst 3, 1) := by decide +kernel
theorem dX12_gives_19 : decode cX12_gives 19 = .ok (.iconst 1, 1) := by decide +kernel
theorem dX12_gives_20 : decode cX12_gives 20 = .ok (.invokevirtual 144, 3) := by decide +kernel
theorem dX12_gives_23 : decode cX12_gives 23 = .ok (.aload_n 0, 1) := by decide +kernel
theorem dX12_gives_24 : decode cX12_gives 24 = .ok (.iload_n 1, 1) := by decide +kernel
theorem dX12_gives_25 : decode cX12_gives 25 = .ok (.iconst 0, 1) := by decide +kernel
theorem dX12_gives_26 : decode cX12_gives 26 = .ok (.aload_n 0, 1) := by decide +kernel
theorem dX12_gives_27 : decode cX12_gives 27 = .ok (.iload_n 1, 1) := by decide +kernel
theorem dX12_gives_28 : decode cX12_gives 28 = .ok (.iconst 0, 1) := by decide +kernel
theorem dX12_gives_29 : decode cX12_gives 29 = .ok (.invokevirtual 62, 3) := by decide +kernel
theorem dX12_gives_32 : decode cX12_gives 32 = .ok (.iload_n 3, 1) := by decide +kernel
theorem dX12_gives_33 : decode cX12_gives 33 = .ok (.isub, 1) := by decide +kernel
theorem dX12_gives_34 : decode cX12_gives 34 = .ok (.invokevirtual 144, 3) := by decide +kernel
theorem dX12_gives_37 : decode cX12_gives 37 = .ok (.iload_n 3, 1) := by decide +kernel
theorem dX12_gives_38 : decode cX12_gives 38 = .ok (.ireturn, 1) := by decide +kernel
theorem dX12_pays_0 : decode cX12_pays 0 = .ok (.aload_n 0, 1) := by decide +kernel
theorem dX12_pays_1 : decode cX12_pays 1 = .ok (.iload_n 1, 1) := by decide +kernel
theorem dX12_pays_2 : decode cX12_pays 2 = .ok (.iconst 2, 1) := by decide +kernel
theorem dX12_pays_3 : decode cX12_pays 3 = .ok (.invokevirtual 62, 3) := by decide +kernel
theorem dX12_pays_6 : decode cX12_pays 6 = .ok (.istore_n 3, 1) := by decide +kernel
theorem dX12_pays_7 : decode cX12_pays 7 = .ok (.iload_n 3, 1) := by decide +kernel
theorem dX12_pays_8 : decode cX12_pays 8 = .ok (.iconst (-1), 1) := by decide +kernel
theorem dX12_pays_9 : decode cX12_pays 9 = .ok (.if_icmp .eq 25, 3) := by decide +kernel
theorem dX12_pays_12 : decode cX12_pays 12 = .ok (.aload_n 0, 1) := by decide +kernel
theorem dX12_pays_13 : decode cX12_pays 13 = .ok (.iload_n 3, 1) := by decide +kernel
theorem dX12_pays_14 : decode cX12_pays 14 = .ok (.iconst 3, 1) := by decide +kernel
theorem dX12_pays_15 : decode cX12_pays 15 = .ok (.invokevirtual 62, 3) := by decide +kernel
theorem dX12_pays_18 : decode cX12_pays 18 = .ok (.ifCond .ne 16, 3) := by decide +kernel
theorem dX12_pays_21 : decode cX12_pays 21 = .ok (.aload_n 0, 1) := by decide +kernel
theorem dX12_pays_22 : decode cX12_pays 22 = .ok (.iload_n 1, 1) := by decide +kernel
theorem dX12_pays_23 : decode cX12_pays 23 = .ok (.aload_n 0, 1) := by decide +kernel
theorem dX12_pays_24 : decode cX12_pays 24 = .ok (.iload_n 3, 1) := by decide +kernel
theorem dX12_pays_25 : decode cX12_pays 25 = .ok (.iload_n 2, 1) := by decide +kernel
theorem dX12_pays_26 : decode cX12_pays 26 = .ok (.iconst 2, 1) := by decide +kernel
theorem dX12_pays_27 : decode cX12_pays 27 = .ok (.idiv, 1) := by decide +kernel
theorem dX12_pays_28 : decode cX12_pays 28 = .ok (.invokevirtual 269, 3) := by decide +kernel
theorem dX12_pays_31 : decode cX12_pays 31 = .ok (.invokevirtual 272, 3) := by decide +kernel
theorem dX12_pays_34 : decode cX12_pays 34 = .ok (.aload_n 0, 1) := by decide +kernel
theorem dX12_pays_35 : decode cX12_pays 35 = .ok (.iload_n 1, 1) := by decide +kernel
theorem dX12_pays_36 : decode cX12_pays 36 = .ok (.iload_n 2, 1) := by decide +kernel
theorem dX12_pays_37 : decode cX12_pays 37 = .ok (.invokevirtual 269, 3) := by decide +kernel
theorem dX12_pays_40 : decode cX12_pays 40 = .ok (.ireturn, 1) := by decide +kernel
theorem dX12_claims_0 : decode cX12_claims 0 = .ok (.aload_n 0, 1) := by decide +kernel
theorem dX12_claims_1 : decode cX12_claims 1 = .ok (.iload_n 1, 1) := by decide +kernel
theorem dX12_claims_2 : decode cX12_claims 2 = .ok (.invokevirtual 256, 3) := by decide +kernel
theorem dX12_claims_5 : decode cX12_claims 5 = .ok (.istore_n 2, 1) := by decide +kernel
theorem dX12_claims_6 : decode cX12_claims 6 = .ok (.iconst 0, 1) := by decide +kernel
theorem dX12_claims_7 : decode cX12_claims 7 = .ok (.istore_n 3, 1) := by decide +kernel
theorem dX12_claims_8 : decode cX12_claims 8 = .ok (.iconst 0, 1) := by decide +kernel
theorem dX12_claims_9 : decode cX12_claims 9 = .ok (.istore 4, 2) := by decide +kernel
theorem dX12_claims_11 : decode cX12_claims 11 = .ok (.iload 4, 2) := by decide +kernel
theorem dX12_claims_13 : decode cX12_claims 13 = .ok (.aload_n 0, 1) := by decide +kernel
theorem dX12_claims_14 : decode cX12_claims 14 = .ok (.getfield 7, 3) := by decide +kernel
theorem dX12_claims_17 : decode cX12_claims 17 = .ok (.iconst 3, 1) := by decide +kernel
theorem dX12_claims_18 : decode cX12_claims 18 = .ok (.iaload, 1) := by decide +kernel
theorem dX12_claims_19 : decode cX12_claims 19 = .ok (.if_icmp .ge 34, 3) := by decide +kernel
theorem dX12_claims_22 : decode cX12_claims 22 = .ok (.iload_n 2, 1) := by decide +kernel
theorem dX12_claims_23 : decode cX12_claims 23 = .ok (.iload 4, 2) := by decide +kernel
theorem dX12_claims_25 : decode cX12_claims 25 = .ok (.invokestatic 65, 3) := by decide +kernel
theorem dX12_claims_28 : decode cX12_claims 28 = .ok (.ifCond .eq 19, 3) := by decide +kernel
theorem dX12_claims_31 : decode cX12_claims 31 = .ok (.iload_n 3, 1) := by decide +kernel
theorem dX12_claims_32 : decode cX12_claims 32 = .ok (.aload_n 0, 1) := by decide +kernel
theorem dX12_claims_33 : decode cX12_claims 33 = .ok (.iload 4, 2) := by decide +kernel
theorem dX12_claims_35 : decode cX12_claims 35 = .ok (.aload_n 0, 1) := by decide +kernel
theorem dX12_claims_36 : decode cX12_claims 36 = .ok (.getfield 7, 3) := by decide +kernel
theorem dX12_claims_39 : decode cX12_claims 39 = .ok (.bipush 7, 2) := by decide +kernel
theorem dX12_claims_41 : decode cX12_claims 41 = .ok (.iaload, 1) := by decide +kernel
theorem dX12_claims_42 : decode cX12_claims 42 = .ok (.invokevirtual 275, 3) := by decide +kernel
theorem dX12_claims_45 : decode cX12_claims 45 = .ok (.iadd, 1) := by decide +kernel
theorem dX12_claims_46 : decode cX12_claims 46 = .ok (.istore_n 3, 1) := by decide +kernel
theorem dX12_claims_47 : decode cX12_claims 47 = .ok (.iinc 4 1, 3) := by decide +kernel
theorem dX12_claims_50 : decode cX12_claims 50 = .ok (.goto (-39), 3) := by decide +kernel
theorem dX12_claims_53 : decode cX12_claims 53 = .ok (.aload_n 0, 1) := by decide +kernel
theorem dX12_claims_54 : decode cX12_claims 54 = .ok (.aload_n 0, 1) := by decide +kernel
theorem dX12_claims_55 : decode cX12_claims 55 = .ok (.iload_n 1, 1) := by decide +kernel
theorem dX12_claims_56 : decode cX12_claims 56 = .ok (.iconst 0, 1) := by decide +kernel
theorem dX12_claims_57 : decode cX12_claims 57 = .ok (.invokevirtual 58, 3) := by decide +kernel
theorem dX12_claims_60 : decode cX12_claims 60 = .ok (.iload_n 3, 1) := by decide +kernel
theorem dX12_claims_61 : decode cX12_claims 61 = .ok (.iconst 2, 1) := by decide +kernel
theorem dX12_claims_62 : decode cX12_claims 62 = .ok (.idiv, 1) := by decide +kernel
theorem dX12_claims_63 : decode cX12_claims 63 = .ok (.invokevirtual 272, 3) := by decide +kernel
theorem dX12_claims_66 : decode cX12_claims 66 = .ok (.aload_n 0, 1) := by decide +kernel
theorem dX12_claims_67 : decode cX12_claims 67 = .ok (.aload_n 0, 1) := by decide +kernel
theorem dX12_claims_68 : decode cX12_claims 68 = .ok (.iload_n 1, 1) := by decide +kernel
theorem dX12_claims_69 : decode cX12_claims 69 = .ok (.iconst 1, 1) := by decide +kernel
theorem dX12_claims_70 : decode cX12_claims 70 = .ok (.invokevirtual 58, 3) := by decide +kernel
theorem dX12_claims_73 : decode cX12_claims 73 = .ok (.iload_n 3, 1) := by decide +kernel
theorem dX12_claims_74 : decode cX12_claims 74 = .ok (.iload_n 3, 1) := by decide +kernel
theorem dX12_claims_75 : decode cX12_claims 75 = .ok (.iconst 2, 1) := by decide +kernel
theorem dX12_claims_76 : decode cX12_claims 76 = .ok (.idiv, 1) := by decide +kernel
theorem dX12_claims_77 : decode cX12_claims 77 = .ok (.isub, 1) := by decide +kernel
theorem dX12_claims_78 : decode cX12_claims 78 = .ok (.invokevirtual 272, 3) := by decide +kernel
theorem dX12_claims_81 : decode cX12_claims 81 = .ok (.iload_n 3, 1) := by decide +kernel
theorem dX12_claims_82 : decode cX12_claims 82 = .ok (.ireturn, 1) := by decide +kernel
theorem dX12_premiums_0 : decode cX12_premiums 0 = .ok (.aload_n 0, 1) := by decide +kernel
theorem dX12_premiums_1 : decode cX12_premiums 1 = .ok (.iload_n 1, 1) := by decide +kernel
theorem dX12_premiums_2 : decode cX12_premiums 2 = .ok (.invokevirtual 256, 3) := by decide +kernel
theorem dX12_premiums_5 : decode cX12_premiums 5 = .ok (.istore_n 2, 1) := by decide +kernel
theorem dX12_premiums_6 : decode cX12_premiums 6 = .ok (.iconst 0, 1) := by decide +kernel
theorem dX12_premiums_7 : decode cX12_premiums 7 = .ok (.istore_n 3, 1) := by decide +kernel
theorem dX12_premiums_8 : decode cX12_premiums 8 = .ok (.iload_n 3, 1) := by decide +kernel
theorem dX12_premiums_9 : decode cX12_premiums 9 = .ok (.aload_n 0, 1) := by decide +kernel
theorem dX12_premiums_10 : decode cX12_premiums 10 = .ok (.getfield 7, 3) := by decide +kernel
theorem dX12_premiums_13 : decode cX12_premiums 13 = .ok (.iconst 3, 1) := by decide +kernel
theorem dX12_premiums_14 : decode cX12_premiums 14 = .ok (.iaload, 1) := by decide +kernel
theorem dX12_premiums_15 : decode cX12_premiums 15 = .ok (.if_icmp .ge 121, 3) := by decide +kernel
theorem dX12_premiums_18 : decode cX12_premiums 18 = .ok (.iload_n 2, 1) := by decide +kernel
theorem dX12_premiums_19 : decode cX12_premiums 19 = .ok (.iload_n 3, 1) := by decide +kernel
theorem dX12_premiums_20 : decode cX12_premiums 20 = .ok (.invokestatic 65, 3) := by decide +kernel
theorem dX12_premiums_23 : decode cX12_premiums 23 = .ok (.ifCond .ne 6, 3) := by decide +kernel
theorem dX12_premiums_26 : decode cX12_premiums 26 = .ok (.goto 104, 3) := by decide +kernel
theorem dX12_premiums_29 : decode cX12_premiums 29 = .ok (.aload_n 0, 1) := by decide +kernel
theorem dX12_premiums_30 : decode cX12_premiums 30 = .ok (.iload_n 1, 1) := by decide +kernel
theorem dX12_premiums_31 : decode cX12_premiums 31 = .ok (.iconst 0, 1) := by decide +kernel
theorem dX12_premiums_32 : decode cX12_premiums 32 = .ok (.invokevirtual 58, 3) := by decide +kernel
theorem dX12_premiums_35 : decode cX12_premiums 35 = .ok (.istore 4, 2) := by decide +kernel
theorem dX12_premiums_37 : decode cX12_premiums 37 = .ok (.aload_n 0, 1) := by decide +kernel
theorem dX12_premiums_38 : decode cX12_premiums 38 = .ok (.iload_n 1, 1) := by decide +kernel
theorem dX12_premiums_39 : decode cX12_premiums 39 = .ok (.iconst 1, 1) := by decide +kernel
theorem dX12_premiums_40 : decode cX12_premiums 40 = .ok (.invokevirtual 58, 3) := by decide +kernel
theorem dX12_premiums_43 : decode cX12_premiums 43 = .ok (.istore 5, 2) := by decide +kernel
theorem dX12_premiums_45 : decode cX12_premiums 45 = .ok (.aload_n 0, 1) := by decide +kernel
theorem dX12_premiums_46 : decode cX12_premiums 46 = .ok (.getfield 7, 3) := by decide +kernel
theorem dX12_premiums_49 : decode cX12_premiums 49 = .ok (.bipush 6, 2) := by decide +kernel
theorem dX12_premiums_51 : decode cX12_premiums 51 = .ok (.iaload, 1) := by decide +kernel
theorem dX12_premiums_52 : decode cX12_premiums 52 = .ok (.aload_n 0, 1) := by decide +kernel
theorem dX12_premiums_53 : decode cX12_premiums 53 = .ok (.iload 4, 2) := by decide +kernel
theorem dX12_premiums_55 : decode cX12_premiums 55 = .ok (.iconst 0, 1) := by decide +kernel
theorem dX12_premiums_56 : decode cX12_premiums 56 = .ok (.invokevirtual 62, 3) := by decide +kernel
theorem dX12_premiums_59 : decode cX12_premiums 59 = .ok (.invokestatic 263, 3) := by decide +kernel
theorem dX12_premiums_62 : decode cX12_premiums 62 = .ok (.istore 6, 2) := by decide +kernel
theorem dX12_premiums_64 : decode cX12_premiums 64 = .ok (.aload_n 0, 1) := by decide +kernel
theorem dX12_premiums_65 : decode cX12_premiums 65 = .ok (.getfield 7, 3) := by decide +kernel
theorem dX12_premiums_68 : decode cX12_premiums 68 = .ok (.bipush 6, 2) := by decide +kernel
theorem dX12_premiums_70 : decode cX12_premiums 70 = .ok (.iaload, 1) := by decide +kernel
theorem dX12_premiums_71 : decode cX12_premiums 71 = .ok (.iload 6, 2) := by decide +kernel
theorem dX12_premiums_73 : decode cX12_premiums 73 = .ok (.isub, 1) := by decide +kernel
theorem dX12_premiums_74 : decode cX12_premiums 74 = .ok (.aload_n 0, 1) := by decide +kernel
theorem dX12_premiums_75 : decode cX12_premiums 75 = .ok (.iload 5, 2) := by decide +kernel
theorem dX12_premiums_77 : decode cX12_premiums 77 = .ok (.iconst 0, 1) := by decide +kernel
theorem dX12_premiums_78 : decode cX12_premiums 78 = .ok (.invokevirtual 62, 3) := by decide +kernel
theorem dX12_premiums_81 : decode cX12_premiums 81 = .ok (.invokestatic 263, 3) := by decide +kernel
theorem dX12_premiums_84 : decode cX12_premiums 84 = .ok (.istore 7, 2) := by decide +kernel
theorem dX12_premiums_86 : decode cX12_premiums 86 = .ok (.aload_n 0, 1) := by decide +kernel
theorem dX12_premiums_87 : decode cX12_premiums 87 = .ok (.iload 4, 2) := by decide +kernel
theorem dX12_premiums_89 : decode cX12_premiums 89 = .ok (.iconst 0, 1) := by decide +kernel
theorem dX12_premiums_90 : decode cX12_premiums 90 = .ok (.aload_n 0, 1) := by decide +kernel
theorem dX12_premiums_91 : decode cX12_premiums 91 = .ok (.iload 4, 2) := by decide +kernel
theorem dX12_premiums_93 : decode cX12_premiums 93 = .ok (.iconst 0, 1) := by decide +kernel
theorem dX12_premiums_94 : decode cX12_premiums 94 = .ok (.invokevirtual 62, 3) := by decide +kernel
theorem dX12_premiums_97 : decode cX12_premiums 97 = .ok (.iload 6, 2) := by decide +kernel
theorem dX12_premiums_99 : decode cX12_premiums 99 = .ok (.isub, 1) := by decide +kernel
theorem dX12_premiums_100 : decode cX12_premiums 100 = .ok (.invokevirtual 144, 3) := by decide +kernel
theorem dX12_premiums_103 : decode cX12_premiums 103 = .ok (.aload_n 0, 1) := by decide +kernel
theorem dX12_premiums_104 : decode cX12_premiums 104 = .ok (.iload 5, 2) := by decide +kernel
theorem dX12_premiums_106 : decode cX12_premiums 106 = .ok (.iconst 0, 1) := by decide +kernel
theorem dX12_premiums_107 : decode cX12_premiums 107 = .ok (.aload_n 0, 1) := by decide +kernel
theorem dX12_premiums_108 : decode cX12_premiums 108 = .ok (.iload 5, 2) := by decide +kernel
theorem dX12_premiums_110 : decode cX12_premiums 110 = .ok (.iconst 0, 1) := by decide +kernel
theorem dX12_premiums_111 : decode cX12_premiums 111 = .ok (.invokevirtual 62, 3) := by decide +kernel
theorem dX12_premiums_114 : decode cX12_premiums 114 = .ok (.iload 7, 2) := by decide +kernel
theorem dX12_premiums_116 : decode cX12_premiums 116 = .ok (.isub, 1) := by decide +kernel
theorem dX12_premiums_117 : decode cX12_premiums 117 = .ok (.invokevirtual 144, 3) := by decide +kernel
theorem dX12_premiums_120 : decode cX12_premiums 120 = .ok (.aload_n 0, 1) := by decide +kernel
theorem dX12_premiums_121 : decode cX12_premiums 121 = .ok (.iload_n 3, 1) := by decide +kernel
theorem dX12_premiums_122 : decode cX12_premiums 122 = .ok (.iload 6, 2) := by decide +kernel
theorem dX12_premiums_124 : decode cX12_premiums 124 = .ok (.iload 7, 2) := by decide +kernel
theorem dX12_premiums_126 : decode cX12_premiums 126 = .ok (.iadd, 1) := by decide +kernel
theorem dX12_premiums_127 : decode cX12_premiums 127 = .ok (.invokevirtual 272, 3) := by decide +kernel
theorem dX12_premiums_130 : decode cX12_premiums 130 = .ok (.iinc 3 1, 3) := by decide +kernel
theorem dX12_premiums_133 : decode cX12_premiums 133 = .ok (.goto (-125), 3) := by decide +kernel
theorem dX12_premiums_136 : decode cX12_premiums 136 = .ok (.return_, 1) := by decide +kernel
theorem dX12_draw_0 : decode cX12_draw 0 = .ok (.aload_n 0, 1) := by decide +kernel
theorem dX12_draw_1 : decode cX12_draw 1 = .ok (.getfield 7, 3) := by decide +kernel
theorem dX12_draw_4 : decode cX12_draw 4 = .ok (.bipush 12, 2) := by decide +kernel
theorem dX12_draw_6 : decode cX12_draw 6 = .ok (.ldc_w 277, 3) := by decide +kernel
theorem dX12_draw_9 : decode cX12_draw 9 = .ok (.aload_n 0, 1) := by decide +kernel
theorem dX12_draw_10 : decode cX12_draw 10 = .ok (.getfield 7, 3) := by decide +kernel
theorem dX12_draw_13 : decode cX12_draw 13 = .ok (.bipush 12, 2) := by decide +kernel
theorem dX12_draw_15 : decode cX12_draw 15 = .ok (.iaload, 1) := by decide +kernel
theorem dX12_draw_16 : decode cX12_draw 16 = .ok (.imul, 1) := by decide +kernel
theorem dX12_draw_17 : decode cX12_draw 17 = .ok (.sipush 12345, 3) := by decide +kernel
theorem dX12_draw_20 : decode cX12_draw 20 = .ok (.iadd, 1) := by decide +kernel
theorem dX12_draw_21 : decode cX12_draw 21 = .ok (.iastore, 1) := by decide +kernel
theorem dX12_draw_22 : decode cX12_draw 22 = .ok (.aload_n 0, 1) := by decide +kernel
theorem dX12_draw_23 : decode cX12_draw 23 = .ok (.getfield 7, 3) := by decide +kernel
theorem dX12_draw_26 : decode cX12_draw 26 = .ok (.bipush 12, 2) := by decide +kernel
theorem dX12_draw_28 : decode cX12_draw 28 = .ok (.iaload, 1) := by decide +kernel
theorem dX12_draw_29 : decode cX12_draw 29 = .ok (.bipush 16, 2) := by decide +kernel
theorem dX12_draw_31 : decode cX12_draw 31 = .ok (.iushr, 1) := by decide +kernel
theorem dX12_draw_32 : decode cX12_draw 32 = .ok (.sipush 32767, 3) := by decide +kernel
theorem dX12_draw_35 : decode cX12_draw 35 = .ok (.iand, 1) := by decide +kernel
theorem dX12_draw_36 : decode cX12_draw 36 = .ok (.iload_n 1, 1) := by decide +kernel
theorem dX12_draw_37 : decode cX12_draw 37 = .ok (.irem, 1) := by decide +kernel
theorem dX12_draw_38 : decode cX12_draw 38 = .ok (.ireturn, 1) := by decide +kernel
theorem dX12_logs_0 : decode cX12_logs 0 = .ok (.sipush 239, 3) := by decide +kernel
theorem dX12_logs_3 : decode cX12_logs 3 = .ok (.istore 4, 2) := by decide +kernel
theorem dX12_logs_5 : decode cX12_logs 5 = .ok (.iload 4, 2) := by decide +kernel
theorem dX12_logs_7 : decode cX12_logs 7 = .ok (.iconst 4, 1) := by decide +kernel
theorem dX12_logs_8 : decode cX12_logs 8 = .ok (.if_icmp .lt 33, 3) := by decide +kernel
theorem dX12_logs_11 : decode cX12_logs 11 = .ok (.aload_n 0, 1) := by decide +kernel
theorem dX12_logs_12 : decode cX12_logs 12 = .ok (.getfield 7, 3) := by decide +kernel
theorem dX12_logs_15 : decode cX12_logs 15 = .ok (.sipush 210, 3) := by decide +kernel
theorem dX12_logs_18 : decode cX12_logs 18 = .ok (.iload 4, 2) := by decide +kernel
theorem dX12_logs_20 : decode cX12_logs 20 = .ok (.iadd, 1) := by decide +kernel
theorem dX12_logs_21 : decode cX12_logs 21 = .ok (.aload_n 0, 1) := by decide +kernel
theorem dX12_logs_22 : decode cX12_logs 22 = .ok (.getfield 7, 3) := by decide +kernel
theorem dX12_logs_25 : decode cX12_logs 25 = .ok (.sipush 210, 3) := by decide +kernel
theorem dX12_logs_28 : decode cX12_logs 28 = .ok (.iload 4, 2) := by decide +kernel
theorem dX12_logs_30 : decode cX12_logs 30 = .ok (.iadd, 1) := by decide +kernel
theorem dX12_logs_31 : decode cX12_logs 31 = .ok (.iconst 4, 1) := by decide +kernel
theorem dX12_logs_32 : decode cX12_logs 32 = .ok (.isub, 1) := by decide +kernel
theorem dX12_logs_33 : decode cX12_logs 33 = .ok (.iaload, 1) := by decide +kernel
theorem dX12_logs_34 : decode cX12_logs 34 = .ok (.iastore, 1) := by decide +kernel
theorem dX12_logs_35 : decode cX12_logs 35 = .ok (.iinc 4 (-1), 3) := by decide +kernel
theorem dX12_logs_38 : decode cX12_logs 38 = .ok (.goto (-33), 3) := by decide +kernel
theorem dX12_logs_41 : decode cX12_logs 41 = .ok (.aload_n 0, 1) := by decide +kernel
theorem dX12_logs_42 : decode cX12_logs 42 = .ok (.getfield 7, 3) := by decide +kernel
theorem dX12_logs_45 : decode cX12_logs 45 = .ok (.sipush 210, 3) := by decide +kernel
theorem dX12_logs_48 : decode cX12_logs 48 = .ok (.aload_n 0, 1) := by decide +kernel
theorem dX12_logs_49 : decode cX12_logs 49 = .ok (.getfield 7, 3) := by decide +kernel
theorem dX12_logs_52 : decode cX12_logs 52 = .ok (.bipush 8, 2) := by decide +kernel
theorem dX12_logs_54 : decode cX12_logs 54 = .ok (.iaload, 1) := by decide +kernel
theorem dX12_logs_55 : decode cX12_logs 55 = .ok (.iastore, 1) := by decide +kernel
theorem dX12_logs_56 : decode cX12_logs 56 = .ok (.aload_n 0, 1) := by decide +kernel
theorem dX12_logs_57 : decode cX12_logs 57 = .ok (.getfield 7, 3) := by decide +kernel
theorem dX12_logs_60 : decode cX12_logs 60 = .ok (.sipush 211, 3) := by decide +kernel
theorem dX12_logs_63 : decode cX12_logs 63 = .ok (.iload_n 1, 1) := by decide +kernel
theorem dX12_logs_64 : decode cX12_logs 64 = .ok (.iastore, 1) := by decide +kernel
theorem dX12_logs_65 : decode cX12_logs 65 = .ok (.aload_n 0, 1) := by decide +kernel
theorem dX12_logs_66 : decode cX12_logs 66 = .ok (.getfield 7, 3) := by decide +kernel
theorem dX12_logs_69 : decode cX12_logs 69 = .ok (.sipush 212, 3) := by decide +kernel
theorem dX12_logs_72 : decode cX12_logs 72 = .ok (.iload_n 2, 1) := by decide +kernel
theorem dX12_logs_73 : decode cX12_logs 73 = .ok (.iastore, 1) := by decide +kernel
theorem dX12_logs_74 : decode cX12_logs 74 = .ok (.aload_n 0, 1) := by decide +kernel
theorem dX12_logs_75 : decode cX12_logs 75 = .ok (.getfield 7, 3) := by decide +kernel
theorem dX12_logs_78 : decode cX12_logs 78 = .ok (.sipush 213, 3) := by decide +kernel
theorem dX12_logs_81 : decode cX12_logs 81 = .ok (.iload_n 3, 1) := by decide +kernel
theorem dX12_logs_82 : decode cX12_logs 82 = .ok (.iastore, 1) := by decide +kernel
theorem dX12_logs_83 : decode cX12_logs 83 = .ok (.aload_n 0, 1) := by decide +kernel
theorem dX12_logs_84 : decode cX12_logs 84 = .ok (.getfield 7, 3) := by decide +kernel
theorem dX12_logs_87 : decode cX12_logs 87 = .ok (.bipush 11, 2) := by decide +kernel
theorem dX12_logs_89 : decode cX12_logs 89 = .ok (.bipush 60, 2) := by decide +kernel
theorem dX12_logs_91 : decode cX12_logs 91 = .ok (.aload_n 0, 1) := by decide +kernel
theorem dX12_logs_92 : decode cX12_logs 92 = .ok (.getfield 7, 3) := by decide +kernel
theorem dX12_logs_95 : decode cX12_logs 95 = .ok (.bipush 11, 2) := by decide +kernel
theorem dX12_logs_97 : decode cX12_logs 97 = .ok (.iaload, 1) := by decide +kernel
theorem dX12_logs_98 : decode cX12_logs 98 = .ok (.iconst 1, 1) := by decide +kernel
theorem dX12_logs_99 : decode cX12_logs 99 = .ok (.iadd, 1) := by decide +kernel
theorem dX12_logs_100 : decode cX12_logs 100 = .ok (.invokestatic 263, 3) := by decide +kernel
theorem dX12_logs_103 : decode cX12_logs 103 = .ok (.iastore, 1) := by decide +kernel
theorem dX12_logs_104 : decode cX12_logs 104 = .ok (.aload_n 0, 1) := by decide +kernel
theorem dX12_logs_105 : decode cX12_logs 105 = .ok (.getfield 7, 3) := by decide +kernel
theorem dX12_logs_108 : decode cX12_logs 108 = .ok (.bipush 10, 2) := by decide +kernel
theorem dX12_logs_110 : decode cX12_logs 110 = .ok (.dup2, 1) := by decide +kernel
theorem dX12_logs_111 : decode cX12_logs 111 = .ok (.iaload, 1) := by decide +kernel
theorem dX12_logs_112 : decode cX12_logs 112 = .ok (.iconst 1, 1) := by decide +kernel
theorem dX12_logs_113 : decode cX12_logs 113 = .ok (.iadd, 1) := by decide +kernel
theorem dX12_logs_114 : decode cX12_logs 114 = .ok (.iastore, 1) := by decide +kernel
theorem dX12_logs_115 : decode cX12_logs 115 = .ok (.return_, 1) := by decide +kernel
theorem dX12_goes_0 : decode cX12_goes 0 = .ok (.aload_n 0, 1) := by decide +kernel
theorem dX12_goes_1 : decode cX12_goes 1 = .ok (.getfield 7, 3) := by decide +kernel
theorem dX12_goes_4 : decode cX12_goes 4 = .ok (.bipush 10, 2) := by decide +kernel
theorem dX12_goes_6 : decode cX12_goes 6 = .ok (.iaload, 1) := by decide +kernel
theorem dX12_goes_7 : decode cX12_goes 7 = .ok (.istore_n 2, 1) := by decide +kernel
theorem dX12_goes_8 : decode cX12_goes 8 = .ok (.iconst 0, 1) := by decide +kernel
theorem dX12_goes_9 : decode cX12_goes 9 = .ok (.istore_n 3, 1) := by decide +kernel
theorem dX12_goes_10 : decode cX12_goes 10 = .ok (.iload_n 3, 1) := by decide +kernel
theorem dX12_goes_11 : decode cX12_goes 11 = .ok (.iload_n 1, 1) := by decide +kernel
theorem dX12_goes_12 : decode cX12_goes 12 = .ok (.if_icmp .ge 176, 3) := by decide +kernel
theorem dX12_goes_15 : decode cX12_goes 15 = .ok (.aload_n 0, 1) := by decide +kernel
theorem dX12_goes_16 : decode cX12_goes 16 = .ok (.getfield 7, 3) := by decide +kernel
theorem dX12_goes_19 : decode cX12_goes 19 = .ok (.bipush 9, 2) := by decide +kernel
theorem dX12_goes_21 : decode cX12_goes 21 = .ok (.aload_n 0, 1) := by decide +kernel
theorem dX12_goes_22 : decode cX12_goes 22 = .ok (.bipush 10, 2) := by decide +kernel
theorem dX12_goes_24 : decode cX12_goes 24 = .ok (.invokevirtual 278, 3) := by decide +kernel
theorem dX12_goes_27 : decode cX12_goes 27 = .ok (.iastore, 1) := by decide +kernel
theorem dX12_goes_28 : decode cX12_goes 28 = .ok (.iconst 0, 1) := by decide +kernel
theorem dX12_goes_29 : decode cX12_goes 29 = .ok (.istore 4, 2) := by decide +kernel
theorem dX12_goes_31 : decode cX12_goes 31 = .ok (.iload 4, 2) := by decide +kernel
theorem dX12_goes_33 : decode cX12_goes 33 = .ok (.aload_n 0, 1) := by decide +kernel
theorem dX12_goes_34 : decode cX12_goes 34 = .ok (.getfield 7, 3) := by decide +kernel
theorem dX12_goes_37 : decode cX12_goes 37 = .ok (.iconst 4, 1) := by decide +kernel
theorem dX12_goes_38 : decode cX12_goes 38 = .ok (.iaload, 1) := by decide +kernel
theorem dX12_goes_39 : decode cX12_goes 39 = .ok (.if_icmp .ge 121, 3) := by decide +kernel
theorem dX12_goes_42 : decode cX12_goes 42 = .ok (.aload_n 0, 1) := by decide +kernel
theorem dX12_goes_43 : decode cX12_goes 43 = .ok (.iload 4, 2) := by decide +kernel
theorem dX12_goes_45 : decode cX12_goes 45 = .ok (.iconst 4, 1) := by decide +kernel
theorem dX12_goes_46 : decode cX12_goes 46 = .ok (.invokevirtual 58, 3) := by decide +kernel
theorem dX12_goes_49 : decode cX12_goes 49 = .ok (.iconst 1, 1) := by decide +kernel
theorem dX12_goes_50 : decode cX12_goes 50 = .ok (.if_icmp .ne 6, 3) := by decide +kernel
theorem dX12_goes_53 : decode cX12_goes 53 = .ok (.goto 101, 3) := by decide +kernel
theorem dX12_goes_56 : decode cX12_goes 56 = .ok (.aload_n 0, 1) := by decide +kernel
theorem dX12_goes_57 : decode cX12_goes 57 = .ok (.iload 4, 2) := by decide +kernel
theorem dX12_goes_59 : decode cX12_goes 59 = .ok (.invokevirtual 281, 3) := by decide +kernel
theorem dX12_goes_62 : decode cX12_goes 62 = .ok (.aload_n 0, 1) := by decide +kernel
theorem dX12_goes_63 : decode cX12_goes 63 = .ok (.iload 4, 2) := by decide +kernel
theorem dX12_goes_65 : decode cX12_goes 65 = .ok (.iconst 2, 1) := by decide +kernel
theorem dX12_goes_66 : decode cX12_goes 66 = .ok (.aload_n 0, 1) := by decide +kernel
theorem dX12_goes_67 : decode cX12_goes 67 = .ok (.iload 4, 2) := by decide +kernel
theorem dX12_goes_69 : decode cX12_goes 69 = .ok (.aload_n 0, 1) := by decide +kernel
theorem dX12_goes_70 : decode cX12_goes 70 = .ok (.getfield 7, 3) := by decide +kernel
theorem dX12_goes_73 : decode cX12_goes 73 = .ok (.bipush 9, 2) := by decide +kernel
theorem dX12_goes_75 : decode cX12_goes 75 = .ok (.iaload, 1) := by decide +kernel
theorem dX12_goes_76 : decode cX12_goes 76 = .ok (.invokevirtual 284, 3) := by decide +kernel
theorem dX12_goes_79 : decode cX12_goes 79 = .ok (.invokevirtual 141, 3) := by decide +kernel
theorem dX12_goes_82 : decode cX12_goes 82 = .ok (.aload_n 0, 1) := by decide +kernel
theorem dX12_goes_83 : decode cX12_goes 83 = .ok (.iload 4, 2) := by decide +kernel
theorem dX12_goes_85 : decode cX12_goes 85 = .ok (.iconst 3, 1) := by decide +kernel
theorem dX12_goes_86 : decode cX12_goes 86 = .ok (.aload_n 0, 1) := by decide +kernel
theorem dX12_goes_87 : decode cX12_goes 87 = .ok (.iload 4, 2) := by decide +kernel
theorem dX12_goes_89 : decode cX12_goes 89 = .ok (.iconst 3, 1) := by decide +kernel
theorem dX12_goes_90 : decode cX12_goes 90 = .ok (.invokevirtual 58, 3) := by decide +kernel
theorem dX12_goes_93 : decode cX12_goes 93 = .ok (.iconst 1, 1) := by decide +kernel
theorem dX12_goes_94 : decode cX12_goes 94 = .ok (.iadd, 1) := by decide +kernel
theorem dX12_goes_95 : decode cX12_goes 95 = .ok (.invokevirtual 141, 3) := by decide +kernel
theorem dX12_goes_98 : decode cX12_goes 98 = .ok (.aload_n 0, 1) := by decide +kernel
theorem dX12_goes_99 : decode cX12_goes 99 = .ok (.iload 4, 2) := by decide +kernel
theorem dX12_goes_101 : decode cX12_goes 101 = .ok (.iconst 2, 1) := by decide +kernel
theorem dX12_goes_102 : decode cX12_goes 102 = .ok (.invokevirtual 58, 3) := by decide +kernel
theorem dX12_goes_105 : decode cX12_goes 105 = .ok (.aload_n 0, 1) := by decide +kernel
theorem dX12_goes_106 : decode cX12_goes 106 = .ok (.getfield 7, 3) := by decide +kernel
theorem dX12_goes_109 : decode cX12_goes 109 = .ok (.iconst 5, 1) := by decide +kernel
theorem dX12_goes_110 : decode cX12_goes 110 = .ok (.iaload, 1) := by decide +kernel
theorem dX12_goes_111 : decode cX12_goes 111 = .ok (.if_icmp .ge 25, 3) := by decide +kernel
theorem dX12_goes_114 : decode cX12_goes 114 = .ok (.aload_n 0, 1) := by decide +kernel
theorem dX12_goes_115 : decode cX12_goes 115 = .ok (.iload 4, 2) := by decide +kernel
theorem dX12_goes_117 : decode cX12_goes 117 = .ok (.invokevirtual 256, 3) := by decide +kernel
theorem dX12_goes_120 : decode cX12_goes 120 = .ok (.istore 5, 2) := by decide +kernel
theorem dX12_goes_122 : decode cX12_goes 122 = .ok (.aload_n 0, 1) := by decide +kernel
theorem dX12_goes_123 : decode cX12_goes 123 = .ok (.iload 4, 2) := by decide +kernel
theorem dX12_goes_125 : decode cX12_goes 125 = .ok (.aload_n 0, 1) := by decide +kernel
theorem dX12_goes_126 : decode cX12_goes 126 = .ok (.iload 4, 2) := by decide +kernel
theorem dX12_goes_128 : decode cX12_goes 128 = .ok (.invokevirtual 287, 3) := by decide +kernel
theorem dX12_goes_131 : decode cX12_goes 131 = .ok (.iload 5, 2) := by decide +kernel
theorem dX12_goes_133 : decode cX12_goes 133 = .ok (.invokevirtual 290, 3) := by decide +kernel
theorem dX12_goes_136 : decode cX12_goes 136 = .ok (.aload_n 0, 1) := by decide +kernel
theorem dX12_goes_137 : decode cX12_goes 137 = .ok (.iload 4, 2) := by decide +kernel
theorem dX12_goes_139 : decode cX12_goes 139 = .ok (.iconst 2, 1) := by decide +kernel
theorem dX12_goes_140 : decode cX12_goes 140 = .ok (.invokevirtual 58, 3) := by decide +kernel
theorem dX12_goes_143 : decode cX12_goes 143 = .ok (.ifCond .ne 11, 3) := by decide +kernel
theorem dX12_goes_146 : decode cX12_goes 146 = .ok (.aload_n 0, 1) := by decide +kernel
theorem dX12_goes_147 : decode cX12_goes 147 = .ok (.iload 4, 2) := by decide +kernel
theorem dX12_goes_149 : decode cX12_goes 149 = .ok (.iconst 4, 1) := by decide +kernel
theorem dX12_goes_150 : decode cX12_goes 150 = .ok (.iconst 1, 1) := by decide +kernel
theorem dX12_goes_151 : decode cX12_goes 151 = .ok (.invokevirtual 141, 3) := by decide +kernel
theorem dX12_goes_154 : decode cX12_goes 154 = .ok (.iinc 4 1, 3) := by decide +kernel
theorem dX12_goes_157 : decode cX12_goes 157 = .ok (.goto (-126), 3) := by decide +kernel
theorem dX12_goes_160 : decode cX12_goes 160 = .ok (.aload_n 0, 1) := by decide +kernel
theorem dX12_goes_161 : decode cX12_goes 161 = .ok (.getfield 7, 3) := by decide +kernel
theorem dX12_goes_164 : decode cX12_goes 164 = .ok (.bipush 8, 2) := by decide +kernel
theorem dX12_goes_166 : decode cX12_goes 166 = .ok (.sipush 9999, 3) := by decide +kernel
theorem dX12_goes_169 : decode cX12_goes 169 = .ok (.aload_n 0, 1) := by decide +kernel
theorem dX12_goes_170 : decode cX12_goes 170 = .ok (.getfield 7, 3) := by decide +kernel
theorem dX12_goes_173 : decode cX12_goes 173 = .ok (.bipush 8, 2) := by decide +kernel
theorem dX12_goes_175 : decode cX12_goes 175 = .ok (.iaload, 1) := by decide +kernel
theorem dX12_goes_176 : decode cX12_goes 176 = .ok (.iconst 1, 1) := by decide +kernel
theorem dX12_goes_177 : decode cX12_goes 177 = .ok (.iadd, 1) := by decide +kernel
theorem dX12_goes_178 : decode cX12_goes 178 = .ok (.invokestatic 263, 3) := by decide +kernel
theorem dX12_goes_181 : decode cX12_goes 181 = .ok (.iastore, 1) := by decide +kernel
theorem dX12_goes_182 : decode cX12_goes 182 = .ok (.iinc 3 1, 3) := by decide +kernel
theorem dX12_goes_185 : decode cX12_goes 185 = .ok (.goto (-175), 3) := by decide +kernel
theorem dX12_goes_188 : decode cX12_goes 188 = .ok (.aload_n 0, 1) := by decide +kernel
theorem dX12_goes_189 : decode cX12_goes 189 = .ok (.getfield 7, 3) := by decide +kernel
theorem dX12_goes_192 : decode cX12_goes 192 = .ok (.bipush 10, 2) := by decide +kernel
theorem dX12_goes_194 : decode cX12_goes 194 = .ok (.iaload, 1) := by decide +kernel
theorem dX12_goes_195 : decode cX12_goes 195 = .ok (.iload_n 2, 1) := by decide +kernel
theorem dX12_goes_196 : decode cX12_goes 196 = .ok (.isub, 1) := by decide +kernel
theorem dX12_goes_197 : decode cX12_goes 197 = .ok (.ireturn, 1) := by decide +kernel
theorem dX12_askersOf_0 : decode cX12_askersOf 0 = .ok (.iconst 0, 1) := by decide +kernel
theorem dX12_askersOf_1 : decode cX12_askersOf 1 = .ok (.istore_n 2, 1) := by decide +kernel
theorem dX12_askersOf_2 : decode cX12_askersOf 2 = .ok (.iconst 0, 1) := by decide +kernel
theorem dX12_askersOf_3 : decode cX12_askersOf 3 = .ok (.istore_n 3, 1) := by decide +kernel
theorem dX12_askersOf_4 : decode cX12_askersOf 4 = .ok (.iload_n 3, 1) := by decide +kernel
theorem dX12_askersOf_5 : decode cX12_askersOf 5 = .ok (.aload_n 0, 1) := by decide +kernel
theorem dX12_askersOf_6 : decode cX12_askersOf 6 = .ok (.getfield 7, 3) := by decide +kernel
theorem dX12_askersOf_9 : decode cX12_askersOf 9 = .ok (.iconst 3, 1) := by decide +kernel
theorem dX12_askersOf_10 : decode cX12_askersOf 10 = .ok (.iaload, 1) := by decide +kernel
theorem dX12_askersOf_11 : decode cX12_askersOf 11 = .ok (.if_icmp .ge 32, 3) := by decide +kernel
theorem dX12_askersOf_14 : decode cX12_askersOf 14 = .ok (.iload_n 2, 1) := by decide +kernel
theorem dX12_askersOf_15 : decode cX12_askersOf 15 = .ok (.aload_n 0, 1) := by decide +kernel
theorem dX12_askersOf_16 : decode cX12_askersOf 16 = .ok (.iload_n 3, 1) := by decide +kernel
theorem dX12_askersOf_17 : decode cX12_askersOf 17 = .ok (.iconst 1, 1) := by decide +kernel
theorem dX12_askersOf_18 : decode cX12_askersOf 18 = .ok (.invokevirtual 62, 3) := by decide +kernel
theorem dX12_askersOf_21 : decode cX12_askersOf 21 = .ok (.iload_n 1, 1) := by decide +kernel
theorem dX12_askersOf_22 : decode cX12_askersOf 22 = .ok (.invokestatic 65, 3) := by decide +kernel
theorem dX12_askersOf_25 : decode cX12_askersOf 25 = .ok (.ifCond .eq 9, 3) := by decide +kernel
theorem dX12_askersOf_28 : decode cX12_askersOf 28 = .ok (.iconst 1, 1) := by decide +kernel
theorem dX12_askersOf_29 : decode cX12_askersOf 29 = .ok (.iload_n 3, 1) := by decide +kernel
theorem dX12_askersOf_30 : decode cX12_askersOf 30 = .ok (.ishl, 1) := by decide +kernel
theorem dX12_askersOf_31 : decode cX12_askersOf 31 = .ok (.goto 4, 3) := by decide +kernel
theorem dX12_askersOf_34 : decode cX12_askersOf 34 = .ok (.iconst 0, 1) := by decide +kernel
theorem dX12_askersOf_35 : decode cX12_askersOf 35 = .ok (.ior, 1) := by decide +kernel
theorem dX12_askersOf_36 : decode cX12_askersOf 36 = .ok (.istore_n 2, 1) := by decide +kernel
theorem dX12_askersOf_37 : decode cX12_askersOf 37 = .ok (.iinc 3 1, 3) := by decide +kernel
theorem dX12_askersOf_40 : decode cX12_askersOf 40 = .ok (.goto (-36), 3) := by decide +kernel
theorem dX12_askersOf_43 : decode cX12_askersOf 43 = .ok (.iload_n 2, 1) := by decide +kernel
theorem dX12_askersOf_44 : decode cX12_askersOf 44 = .ok (.ireturn, 1) := by decide +kernel
theorem dX12_wealths_0 : decode cX12_wealths 0 = .ok (.iconst 0, 1) := by decide +kernel
theorem dX12_wealths_1 : decode cX12_wealths 1 = .ok (.istore_n 1, 1) := by decide +kernel
theorem dX12_wealths_2 : decode cX12_wealths 2 = .ok (.iconst 0, 1) := by decide +kernel
theorem dX12_wealths_3 : decode cX12_wealths 3 = .ok (.istore_n 2, 1) := by decide +kernel
theorem dX12_wealths_4 : decode cX12_wealths 4 = .ok (.iload_n 2, 1) := by decide +kernel
theorem dX12_wealths_5 : decode cX12_wealths 5 = .ok (.aload_n 0, 1) := by decide +kernel
theorem dX12_wealths_6 : decode cX12_wealths 6 = .ok (.getfield 7, 3) := by decide +kernel
theorem dX12_wealths_9 : decode cX12_wealths 9 = .ok (.iconst 3, 1) := by decide +kernel
theorem dX12_wealths_10 : decode cX12_wealths 10 = .ok (.iaload, 1) := by decide +kernel
theorem dX12_wealths_11 : decode cX12_wealths 11 = .ok (.if_icmp .ge 18, 3) := by decide +kernel
theorem dX12_wealths_14 : decode cX12_wealths 14 = .ok (.iload_n 1, 1) := by decide +kernel
theorem dX12_wealths_15 : decode cX12_wealths 15 = .ok (.aload_n 0, 1) := by decide +kernel
theorem dX12_wealths_16 : decode cX12_wealths 16 = .ok (.iload_n 2, 1) := by decide +kernel
theorem dX12_wealths_17 : decode cX12_wealths 17 = .ok (.iconst 0, 1) := by decide +kernel
theorem dX12_wealths_18 : decode cX12_wealths 18 = .ok (.invokevirtual 62, 3) := by decide +kernel
theorem dX12_wealths_21 : decode cX12_wealths 21 = .ok (.iadd, 1) := by decide +kernel
theorem dX12_wealths_22 : decode cX12_wealths 22 = .ok (.istore_n 1, 1) := by decide +kernel
theorem dX12_wealths_23 : decode cX12_wealths 23 = .ok (.iinc 2 1, 3) := by decide +kernel
theorem dX12_wealths_26 : decode cX12_wealths 26 = .ok (.goto (-22), 3) := by decide +kernel
theorem dX12_wealths_29 : decode cX12_wealths 29 = .ok (.iload_n 1, 1) := by decide +kernel
theorem dX12_wealths_30 : decode cX12_wealths 30 = .ok (.ireturn, 1) := by decide +kernel
theorem dX12_person_0 : decode cX12_person 0 = .ok (.aload_n 0, 1) := by decide +kernel
theorem dX12_person_1 : decode cX12_person 1 = .ok (.aload_n 0, 1) := by decide +kernel
theorem dX12_person_2 : decode cX12_person 2 = .ok (.iload_n 1, 1) := by decide +kernel
theorem dX12_person_3 : decode cX12_person 3 = .ok (.invokevirtual 293, 3) := by decide +kernel
theorem dX12_person_6 : decode cX12_person 6 = .ok (.ifCond .ne 7, 3) := by decide +kernel
theorem dX12_person_9 : decode cX12_person 9 = .ok (.iconst 1, 1) := by decide +kernel
theorem dX12_person_10 : decode cX12_person 10 = .ok (.goto 18, 3) := by decide +kernel
theorem dX12_person_13 : decode cX12_person 13 = .ok (.iload_n 2, 1) := by decide +kernel
theorem dX12_person_14 : decode cX12_person 14 = .ok (.iconst 0, 1) := by decide +kernel
theorem dX12_person_15 : decode cX12_person 15 = .ok (.bipush 6, 2) := by decide +kernel
theorem dX12_person_17 : decode cX12_person 17 = .ok (.invokestatic 54, 3) := by decide +kernel
theorem dX12_person_20 : decode cX12_person 20 = .ok (.ifCond .ne 7, 3) := by decide +kernel
theorem dX12_person_23 : decode cX12_person 23 = .ok (.iconst 2, 1) := by decide +kernel
theorem dX12_person_24 : decode cX12_person 24 = .ok (.goto 4, 3) := by decide +kernel
theorem dX12_person_27 : decode cX12_person 27 = .ok (.iconst 0, 1) := by decide +kernel
theorem dX12_person_28 : decode cX12_person 28 = .ok (.putfield 51, 3) := by decide +kernel
theorem dX12_person_31 : decode cX12_person 31 = .ok (.aload_n 0, 1) := by decide +kernel
theorem dX12_person_32 : decode cX12_person 32 = .ok (.getfield 51, 3) := by decide +kernel
theorem dX12_person_35 : decode cX12_person 35 = .ok (.ifCond .le 5, 3) := by decide +kernel
theorem dX12_person_38 : decode cX12_person 38 = .ok (.iconst 0, 1) := by decide +kernel
theorem dX12_person_39 : decode cX12_person 39 = .ok (.ireturn, 1) := by decide +kernel
theorem dX12_person_40 : decode cX12_person 40 = .ok (.iload_n 2, 1) := by decide +kernel
theorem dX12_person_41 : decode cX12_person 41 = .ok (.ifCond .ne 10, 3) := by decide +kernel
theorem dX12_person_44 : decode cX12_person 44 = .ok (.aload_n 0, 1) := by decide +kernel
theorem dX12_person_45 : decode cX12_person 45 = .ok (.iload_n 1, 1) := by decide +kernel
theorem dX12_person_46 : decode cX12_person 46 = .ok (.iconst 0, 1) := by decide +kernel
theorem dX12_person_47 : decode cX12_person 47 = .ok (.invokevirtual 62, 3) := by decide +kernel
theorem dX12_person_50 : decode cX12_person 50 = .ok (.ireturn, 1) := by decide +kernel
theorem dX12_person_51 : decode cX12_person 51 = .ok (.iload_n 2, 1) := by decide +kernel
theorem dX12_person_52 : decode cX12_person 52 = .ok (.iconst 1, 1) := by decide +kernel
theorem dX12_person_53 : decode cX12_person 53 = .ok (.if_icmp .ne 10, 3) := by decide +kernel
theorem dX12_person_56 : decode cX12_person 56 = .ok (.aload_n 0, 1) := by decide +kernel
theorem dX12_person_57 : decode cX12_person 57 = .ok (.iload_n 1, 1) := by decide +kernel
theorem dX12_person_58 : decode cX12_person 58 = .ok (.iconst 1, 1) := by decide +kernel
theorem dX12_person_59 : decode cX12_person 59 = .ok (.invokevirtual 62, 3) := by decide +kernel
theorem dX12_person_62 : decode cX12_person 62 = .ok (.ireturn, 1) := by decide +kernel
theorem dX12_person_63 : decode cX12_person 63 = .ok (.iload_n 2, 1) := by decide +kernel
theorem dX12_person_64 : decode cX12_person 64 = .ok (.iconst 2, 1) := by decide +kernel
theorem dX12_person_65 : decode cX12_person 65 = .ok (.if_icmp .ne 9, 3) := by decide +kernel
theorem dX12_person_68 : decode cX12_person 68 = .ok (.aload_n 0, 1) := by decide +kernel
theorem dX12_person_69 : decode cX12_person 69 = .ok (.iload_n 1, 1) := by decide +kernel
theorem dX12_person_70 : decode cX12_person 70 = .ok (.invokevirtual 296, 3) := by decide +kernel
theorem dX12_person_73 : decode cX12_person 73 = .ok (.ireturn, 1) := by decide +kernel
theorem dX12_person_74 : decode cX12_person 74 = .ok (.iload_n 2, 1) := by decide +kernel
theorem dX12_person_75 : decode cX12_person 75 = .ok (.iconst 3, 1) := by decide +kernel
theorem dX12_person_76 : decode cX12_person 76 = .ok (.if_icmp .ne 10, 3) := by decide +kernel
theorem dX12_person_79 : decode cX12_person 79 = .ok (.aload_n 0, 1) := by decide +kernel
theorem dX12_person_80 : decode cX12_person 80 = .ok (.iload_n 1, 1) := by decide +kernel
theorem dX12_person_81 : decode cX12_person 81 = .ok (.iconst 2, 1) := by decide +kernel
theorem dX12_person_82 : decode cX12_person 82 = .ok (.invokevirtual 62, 3) := by decide +kernel
theorem dX12_person_85 : decode cX12_person 85 = .ok (.ireturn, 1) := by decide +kernel
theorem dX12_person_86 : decode cX12_person 86 = .ok (.iload_n 2, 1) := by decide +kernel
theorem dX12_person_87 : decode cX12_person 87 = .ok (.iconst 4, 1) := by decide +kernel
theorem dX12_person_88 : decode cX12_person 88 = .ok (.if_icmp .ne 10, 3) := by decide +kernel
theorem dX12_person_91 : decode cX12_person 91 = .ok (.aload_n 0, 1) := by decide +kernel
theorem dX12_person_92 : decode cX12_person 92 = .ok (.iload_n 1, 1) := by decide +kernel
theorem dX12_person_93 : decode cX12_person 93 = .ok (.iconst 3, 1) := by decide +kernel
theorem dX12_person_94 : decode cX12_person 94 = .ok (.invokevirtual 62, 3) := by decide +kernel
theorem dX12_person_97 : decode cX12_person 97 = .ok (.ireturn, 1) := by decide +kernel
theorem dX12_person_98 : decode cX12_person 98 = .ok (.iload_n 2, 1) := by decide +kernel
theorem dX12_person_99 : decode cX12_person 99 = .ok (.iconst 5, 1) := by decide +kernel
theorem dX12_person_100 : decode cX12_person 100 = .ok (.if_icmp .ne 9, 3) := by decide +kernel
theorem dX12_person_103 : decode cX12_person 103 = .ok (.aload_n 0, 1) := by decide +kernel
theorem dX12_person_104 : decode cX12_person 104 = .ok (.iload_n 1, 1) := by decide +kernel
theorem dX12_person_105 : decode cX12_person 105 = .ok (.invokevirtual 121, 3) := by decide +kernel
theorem dX12_person_108 : decode cX12_person 108 = .ok (.ireturn, 1) := by decide +kernel
theorem dX12_person_109 : decode cX12_person 109 = .ok (.aload_n 0, 1) := by decide +kernel
theorem dX12_person_110 : decode cX12_person 110 = .ok (.invokevirtual 299, 3) := by decide +kernel
theorem dX12_person_113 : decode cX12_person 113 = .ok (.ifCond .ne 7, 3) := by decide +kernel
theorem dX12_person_116 : decode cX12_person 116 = .ok (.iconst 0, 1) := by decide +kernel
theorem dX12_person_117 : decode cX12_person 117 = .ok (.goto 17, 3) := by decide +kernel
theorem dX12_person_120 : decode cX12_person 120 = .ok (.bipush 100, 2) := by decide +kernel
theorem dX12_person_122 : decode cX12_person 122 = .ok (.aload_n 0, 1) := by decide +kernel
theorem dX12_person_123 : decode cX12_person 123 = .ok (.iload_n 1, 1) := by decide +kernel
theorem dX12_person_124 : decode cX12_person 124 = .ok (.iconst 0, 1) := by decide +kernel
theorem dX12_person_125 : decode cX12_person 125 = .ok (.invokevirtual 62, 3) := by decide +kernel
theorem dX12_person_128 : decode cX12_person 128 = .ok (.imul, 1) := by decide +kernel
theorem dX12_person_129 : decode cX12_person 129 = .ok (.aload_n 0, 1) := by decide +kernel
theorem dX12_person_130 : decode cX12_person 130 = .ok (.invokevirtual 299, 3) := by decide +kernel
theorem dX12_person_133 : decode cX12_person 133 = .ok (.idiv, 1) := by decide +kernel
theorem dX12_person_134 : decode cX12_person 134 = .ok (.ireturn, 1) := by decide +kernel
theorem dX12_two_0 : decode cX12_two 0 = .ok (.aload_n 0, 1) := by decide +kernel
theorem dX12_two_1 : decode cX12_two 1 = .ok (.iload_n 1, 1) := by decide +kernel
theorem dX12_two_2 : decode cX12_two 2 = .ok (.invokevirtual 293, 3) := by decide +kernel
theorem dX12_two_5 : decode cX12_two 5 = .ok (.ifCond .eq 11, 3) := by decide +kernel
theorem dX12_two_8 : decode cX12_two 8 = .ok (.aload_n 0, 1) := by decide +kernel
theorem dX12_two_9 : decode cX12_two 9 = .ok (.iload_n 2, 1) := by decide +kernel
theorem dX12_two_10 : decode cX12_two 10 = .ok (.invokevirtual 293, 3) := by decide +kernel
theorem dX12_two_13 : decode cX12_two 13 = .ok (.ifCond .ne 7, 3) := by decide +kernel
theorem dX12_two_16 : decode cX12_two 16 = .ok (.iconst 1, 1) := by decide +kernel
theorem dX12_two_17 : decode cX12_two 17 = .ok (.goto 13, 3) := by decide +kernel
theorem dX12_two_20 : decode cX12_two 20 = .ok (.iload_n 1, 1) := by decide +kernel
theorem dX12_two_21 : decode cX12_two 21 = .ok (.iload_n 2, 1) := by decide +kernel
theorem dX12_two_22 : decode cX12_two 22 = .ok (.if_icmp .ne 7, 3) := by decide +kernel
theorem dX12_two_25 : decode cX12_two 25 = .ok (.iconst 2, 1) := by decide +kernel
theorem dX12_two_26 : decode cX12_two 26 = .ok (.goto 4, 3) := by decide +kernel
theorem dX12_two_29 : decode cX12_two 29 = .ok (.iconst 0, 1) := by decide +kernel
theorem dX12_two_30 : decode cX12_two 30 = .ok (.ireturn, 1) := by decide +kernel
theorem dX12_liking_0 : decode cX12_liking 0 = .ok (.aload_n 0, 1) := by decide +kernel
theorem dX12_liking_1 : decode cX12_liking 1 = .ok (.aload_n 0, 1) := by decide +kernel
theorem dX12_liking_2 : decode cX12_liking 2 = .ok (.iload_n 1, 1) := by decide +kernel
theorem dX12_liking_3 : decode cX12_liking 3 = .ok (.iload_n 2, 1) := by decide +kernel
theorem dX12_liking_4 : decode cX12_liking 4 = .ok (.invokevirtual 302, 3) := by decide +kernel
theorem dX12_liking_7 : decode cX12_liking 7 = .ok (.putfield 51, 3) := by decide +kernel
theorem dX12_liking_10 : decode cX12_liking 10 = .ok (.aload_n 0, 1) := by decide +kernel
theorem dX12_liking_11 : decode cX12_liking 11 = .ok (.getfield 51, 3) := by decide +kernel
theorem dX12_liking_14 : decode cX12_liking 14 = .ok (.ifCond .le 7, 3) := by decide +kernel
theorem dX12_liking_17 : decode cX12_liking 17 = .ok (.iconst 0, 1) := by decide +kernel
theorem dX12_liking_18 : decode cX12_liking 18 = .ok (.goto 9, 3) := by decide +kernel
theorem dX12_liking_21 : decode cX12_liking 21 = .ok (.aload_n 0, 1) := by decide +kernel
theorem dX12_liking_22 : decode cX12_liking 22 = .ok (.iload_n 1, 1) := by decide +kernel
theorem dX12_liking_23 : decode cX12_liking 23 = .ok (.iload_n 2, 1) := by decide +kernel
theorem dX12_liking_24 : decode cX12_liking 24 = .ok (.invokevirtual 258, 3) := by decide +kernel
theorem dX12_liking_27 : decode cX12_liking 27 = .ok (.ireturn, 1) := by decide +kernel
theorem dX12_match_0 : decode cX12_match 0 = .ok (.aload_n 0, 1) := by decide +kernel
theorem dX12_match_1 : decode cX12_match 1 = .ok (.aload_n 0, 1) := by decide +kernel
theorem dX12_match_2 : decode cX12_match 2 = .ok (.iload_n 1, 1) := by decide +kernel
theorem dX12_match_3 : decode cX12_match 3 = .ok (.invokevirtual 305, 3) := by decide +kernel
theorem dX12_match_6 : decode cX12_match 6 = .ok (.ifCond .ne 7, 3) := by decide +kernel
theorem dX12_match_9 : decode cX12_match 9 = .ok (.iconst 1, 1) := by decide +kernel
theorem dX12_match_10 : decode cX12_match 10 = .ok (.goto 18, 3) := by decide +kernel
theorem dX12_match_13 : decode cX12_match 13 = .ok (.iload_n 2, 1) := by decide +kernel
theorem dX12_match_14 : decode cX12_match 14 = .ok (.iconst 0, 1) := by decide +kernel
theorem dX12_match_15 : decode cX12_match 15 = .ok (.bipush 6, 2) := by decide +kernel
theorem dX12_match_17 : decode cX12_match 17 = .ok (.invokestatic 54, 3) := by decide +kernel
theorem dX12_match_20 : decode cX12_match 20 = .ok (.ifCond .ne 7, 3) := by decide +kernel
theorem dX12_match_23 : decode cX12_match 23 = .ok (.iconst 2, 1) := by decide +kernel
theorem dX12_match_24 : decode cX12_match 24 = .ok (.goto 4, 3) := by decide +kernel
theorem dX12_match_27 : decode cX12_match 27 = .ok (.iconst 0, 1) := by decide +kernel
theorem dX12_match_28 : decode cX12_match 28 = .ok (.putfield 51, 3) := by decide +kernel
theorem dX12_match_31 : decode cX12_match 31 = .ok (.aload_n 0, 1) := by decide +kernel
theorem dX12_match_32 : decode cX12_match 32 = .ok (.getfield 51, 3) := by decide +kernel
theorem dX12_match_35 : decode cX12_match 35 = .ok (.ifCond .le 5, 3) := by decide +kernel
theorem dX12_match_38 : decode cX12_match 38 = .ok (.iconst 0, 1) := by decide +kernel
theorem dX12_match_39 : decode cX12_match 39 = .ok (.ireturn, 1) := by decide +kernel
theorem dX12_match_40 : decode cX12_match 40 = .ok (.iload_n 2, 1) := by decide +kernel
theorem dX12_match_41 : decode cX12_match 41 = .ok (.iconst 5, 1) := by decide +kernel
theorem dX12_match_42 : decode cX12_match 42 = .ok (.if_icmp .ge 12, 3) := by decide +kernel
theorem dX12_match_45 : decode cX12_match 45 = .ok (.aload_n 0, 1) := by decide +kernel
theorem dX12_match_46 : decode cX12_match 46 = .ok (.iload_n 1, 1) := by decide +kernel
theorem dX12_match_47 : decode cX12_match 47 = .ok (.iload_n 2, 1) := by decide +kernel
theorem dX12_match_48 : decode cX12_match 48 = .ok (.invokevirtual 58, 3) := by decide +kernel
theorem dX12_match_51 : decode cX12_match 51 = .ok (.goto 28, 3) := by decide +kernel
theorem dX12_match_54 : decode cX12_match 54 = .ok (.iload_n 2, 1) := by decide +kernel
theorem dX12_match_55 : decode cX12_match 55 = .ok (.iconst 5, 1) := by decide +kernel
theorem dX12_match_56 : decode cX12_match 56 = .ok (.if_icmp .ne 11, 3) := by decide +kernel
theorem dX12_match_59 : decode cX12_match 59 = .ok (.aload_n 0, 1) := by decide +kernel
theorem dX12_match_60 : decode cX12_match 60 = .ok (.iload_n 1, 1) := by decide +kernel
theorem dX12_match_61 : decode cX12_match 61 = .ok (.invokevirtual 256, 3) := by decide +kernel
theorem dX12_match_64 : decode cX12_match 64 = .ok (.goto 15, 3) := by decide +kernel
theorem dX12_match_67 : decode cX12_match 67 = .ok (.aload_n 0, 1) := by decide +kernel
theorem dX12_match_68 : decode cX12_match 68 = .ok (.iload_n 1, 1) := by decide +kernel
theorem dX12_match_69 : decode cX12_match 69 = .ok (.aload_n 0, 1) := by decide +kernel
theorem dX12_match_70 : decode cX12_match 70 = .ok (.getfield 7, 3) := by decide +kernel
theorem dX12_match_73 : decode cX12_match 73 = .ok (.bipush 9, 2) := by decide +kernel
theorem dX12_match_75 : decode cX12_match 75 = .ok (.iaload, 1) := by decide +kernel
theorem dX12_match_76 : decode cX12_match 76 = .ok (.invokevirtual 260, 3) := by decide +kernel
theorem dX12_match_79 : decode cX12_match 79 = .ok (.ireturn, 1) := by decide +kernel
theorem dX12_remembers_0 : decode cX12_remembers 0 = .ok (.aload_n 0, 1) := by decide +kernel
theorem dX12_remembers_1 : decode cX12_remembers 1 = .ok (.getfield 201, 3) := by decide +kernel
theorem dX12_remembers_4 : decode cX12_remembers 4 = .ok (.bipush 12, 2) := by decide +kernel
theorem dX12_remembers_6 : decode cX12_remembers 6 = .ok (.if_icmp .ne 44, 3) := by decide +kernel
theorem dX12_remembers_9 : decode cX12_remembers 9 = .ok (.iconst 0, 1) := by decide +kernel
theorem dX12_remembers_10 : decode cX12_remembers 10 = .ok (.istore_n 1, 1) := by decide +kernel
theorem dX12_remembers_11 : decode cX12_remembers 11 = .ok (.iload_n 1, 1) := by decide +kernel
theorem dX12_remembers_12 : decode cX12_remembers 12 = .ok (.sipush 4950, 3) := by decide +kernel
theorem dX12_remembers_15 : decode cX12_remembers 15 = .ok (.if_icmp .ge 25, 3) := by decide +kernel
theorem dX12_remembers_18 : decode cX12_remembers 18 = .ok (.aload_n 0, 1) := by decide +kernel
theorem dX12_remembers_19 : decode cX12_remembers 19 = .ok (.getfield 19, 3) := by decide +kernel
theorem dX12_remembers_22 : decode cX12_remembers 22 = .ok (.iload_n 1, 1) := by decide +kernel
theorem dX12_remembers_23 : decode cX12_remembers 23 = .ok (.aload_n 0, 1) := by decide +kernel
theorem dX12_remembers_24 : decode cX12_remembers 24 = .ok (.getfield 19, 3) := by decide +kernel
theorem dX12_remembers_27 : decode cX12_remembers 27 = .ok (.iload_n 1, 1) := by decide +kernel
theorem dX12_remembers_28 : decode cX12_remembers 28 = .ok (.sipush 450, 3) := by decide +kernel
theorem dX12_remembers_31 : decode cX12_remembers 31 = .ok (.iadd, 1) := by decide +kernel
theorem dX12_remembers_32 : decode cX12_remembers 32 = .ok (.iaload, 1) := by decide +kernel
theorem dX12_remembers_33 : decode cX12_remembers 33 = .ok (.iastore, 1) := by decide +kernel
theorem dX12_remembers_34 : decode cX12_remembers 34 = .ok (.iinc 1 1, 3) := by decide +kernel
theorem dX12_remembers_37 : decode cX12_remembers 37 = .ok (.goto (-26), 3) := by decide +kernel
theorem dX12_remembers_40 : decode cX12_remembers 40 = .ok (.aload_n 0, 1) := by decide +kernel
theorem dX12_remembers_41 : decode cX12_remembers 41 = .ok (.dup, 1) := by decide +kernel
theorem dX12_remembers_42 : decode cX12_remembers 42 = .ok (.getfield 201, 3) := by decide +kernel
theorem dX12_remembers_45 : decode cX12_remembers 45 = .ok (.iconst 1, 1) := by decide +kernel
theorem dX12_remembers_46 : decode cX12_remembers 46 = .ok (.isub, 1) := by decide +kernel
theorem dX12_remembers_47 : decode cX12_remembers 47 = .ok (.putfield 201, 3) := by decide +kernel
theorem dX12_remembers_50 : decode cX12_remembers 50 = .ok (.iconst 0, 1) := by decide +kernel
theorem dX12_remembers_51 : decode cX12_remembers 51 = .ok (.istore_n 1, 1) := by decide +kernel
theorem dX12_remembers_52 : decode cX12_remembers 52 = .ok (.iload_n 1, 1) := by decide +kernel
theorem dX12_remembers_53 : decode cX12_remembers 53 = .ok (.sipush 450, 3) := by decide +kernel
theorem dX12_remembers_56 : decode cX12_remembers 56 = .ok (.if_icmp .ge 30, 3) := by decide +kernel
theorem dX12_remembers_59 : decode cX12_remembers 59 = .ok (.aload_n 0, 1) := by decide +kernel
theorem dX12_remembers_60 : decode cX12_remembers 60 = .ok (.getfield 19, 3) := by decide +kernel
theorem dX12_remembers_63 : decode cX12_remembers 63 = .ok (.sipush 450, 3) := by decide +kernel
theorem dX12_remembers_66 : decode cX12_remembers 66 = .ok (.aload_n 0, 1) := by decide +kernel
theorem dX12_remembers_67 : decode cX12_remembers 67 = .ok (.getfield 201, 3) := by decide +kernel
theorem dX12_remembers_70 : decode cX12_remembers 70 = .ok (.imul, 1) := by decide +kernel
theorem dX12_remembers_71 : decode cX12_remembers 71 = .ok (.iload_n 1, 1) := by decide +kernel
theorem dX12_remembers_72 : decode cX12_remembers 72 = .ok (.iadd, 1) := by decide +kernel
theorem dX12_remembers_73 : decode cX12_remembers 73 = .ok (.aload_n 0, 1) := by decide +kernel
theorem dX12_remembers_74 : decode cX12_remembers 74 = .ok (.getfield 7, 3) := by decide +kernel
theorem dX12_remembers_77 : decode cX12_remembers 77 = .ok (.iload_n 1, 1) := by decide +kernel
theorem dX12_remembers_78 : decode cX12_remembers 78 = .ok (.iaload, 1) := by decide +kernel
theorem dX12_remembers_79 : decode cX12_remembers 79 = .ok (.iastore, 1) := by decide +kernel
theorem dX12_remembers_80 : decode cX12_remembers 80 = .ok (.iinc 1 1, 3) := by decide +kernel
theorem dX12_remembers_83 : decode cX12_remembers 83 = .ok (.goto (-31), 3) := by decide +kernel
theorem dX12_remembers_86 : decode cX12_remembers 86 = .ok (.aload_n 0, 1) := by decide +kernel
theorem dX12_remembers_87 : decode cX12_remembers 87 = .ok (.dup, 1) := by decide +kernel
theorem dX12_remembers_88 : decode cX12_remembers 88 = .ok (.getfield 201, 3) := by decide +kernel
theorem dX12_remembers_91 : decode cX12_remembers 91 = .ok (.iconst 1, 1) := by decide +kernel
theorem dX12_remembers_92 : decode cX12_remembers 92 = .ok (.iadd, 1) := by decide +kernel
theorem dX12_remembers_93 : decode cX12_remembers 93 = .ok (.putfield 201, 3) := by decide +kernel
theorem dX12_remembers_96 : decode cX12_remembers 96 = .ok (.return_, 1) := by decide +kernel
theorem dX12_ask_0 : decode cX12_ask 0 = .ok (.aload_n 0, 1) := by decide +kernel
theorem dX12_ask_1 : decode cX12_ask 1 = .ok (.aload_n 0, 1) := by decide +kernel
theorem dX12_ask_2 : decode cX12_ask 2 = .ok (.iload_n 1, 1) := by decide +kernel
theorem dX12_ask_3 : decode cX12_ask 3 = .ok (.iload_n 2, 1) := by decide +kernel
theorem dX12_ask_4 : decode cX12_ask 4 = .ok (.invokevirtual 302, 3) := by decide +kernel
theorem dX12_ask_7 : decode cX12_ask 7 = .ok (.putfield 51, 3) := by decide +kernel
theorem dX12_ask_10 : decode cX12_ask 10 = .ok (.aload_n 0, 1) := by decide +kernel
theorem dX12_ask_11 : decode cX12_ask 11 = .ok (.getfield 51, 3) := by decide +kernel
theorem dX12_ask_14 : decode cX12_ask 14 = .ok (.ifCond .le 5, 3) := by decide +kernel
theorem dX12_ask_17 : decode cX12_ask 17 = .ok (.iconst 0, 1) := by decide +kernel
theorem dX12_ask_18 : decode cX12_ask 18 = .ok (.ireturn, 1) := by decide +kernel
theorem dX12_ask_19 : decode cX12_ask 19 = .ok (.aload_n 0, 1) := by decide +kernel
theorem dX12_ask_20 : decode cX12_ask 20 = .ok (.invokevirtual 308, 3) := by decide +kernel
theorem dX12_ask_23 : decode cX12_ask 23 = .ok (.aload_n 0, 1) := by decide +kernel
theorem dX12_ask_24 : decode cX12_ask 24 = .ok (.iload_n 1, 1) := by decide +kernel
theorem dX12_ask_25 : decode cX12_ask 25 = .ok (.iconst 1, 1) := by decide +kernel
theorem dX12_ask_26 : decode cX12_ask 26 = .ok (.invokevirtual 62, 3) := by decide +kernel
theorem dX12_ask_29 : decode cX12_ask 29 = .ok (.iload_n 2, 1) := by decide +kernel
theorem dX12_ask_30 : decode cX12_ask 30 = .ok (.invokestatic 65, 3) := by decide +kernel
theorem dX12_ask_33 : decode cX12_ask 33 = .ok (.istore_n 3, 1) := by decide +kernel
theorem dX12_ask_34 : decode cX12_ask 34 = .ok (.aload_n 0, 1) := by decide +kernel
theorem dX12_ask_35 : decode cX12_ask 35 = .ok (.iload_n 1, 1) := by decide +kernel
theorem dX12_ask_36 : decode cX12_ask 36 = .ok (.iconst 1, 1) := by decide +kernel
theorem dX12_ask_37 : decode cX12_ask 37 = .ok (.aload_n 0, 1) := by decide +kernel
theorem dX12_ask_38 : decode cX12_ask 38 = .ok (.iload_n 1, 1) := by decide +kernel
theorem dX12_ask_39 : decode cX12_ask 39 = .ok (.iconst 1, 1) := by decide +kernel
theorem dX12_ask_40 : decode cX12_ask 40 = .ok (.invokevirtual 62, 3) := by decide +kernel
theorem dX12_ask_43 : decode cX12_ask 43 = .ok (.iconst 1, 1) := by decide +kernel
theorem dX12_ask_44 : decode cX12_ask 44 = .ok (.iload_n 2, 1) := by decide +kernel
theorem dX12_ask_45 : decode cX12_ask 45 = .ok (.ishl, 1) := by decide +kernel
theorem dX12_ask_46 : decode cX12_ask 46 = .ok (.ior, 1) := by decide +kernel
theorem dX12_ask_47 : decode cX12_ask 47 = .ok (.invokevirtual 144, 3) := by decide +kernel
theorem dX12_ask_50 : decode cX12_ask 50 = .ok (.iload_n 3, 1) := by decide +kernel
theorem dX12_ask_51 : decode cX12_ask 51 = .ok (.ifCond .ne 7, 3) := by decide +kernel
theorem dX12_ask_54 : decode cX12_ask 54 = .ok (.iconst 1, 1) := by decide +kernel
theorem dX12_ask_55 : decode cX12_ask 55 = .ok (.goto 4, 3) := by decide +kernel
theorem dX12_ask_58 : decode cX12_ask 58 = .ok (.iconst 0, 1) := by decide +kernel
theorem dX12_ask_59 : decode cX12_ask 59 = .ok (.ireturn, 1) := by decide +kernel
theorem dX12_wed_0 : decode cX12_wed 0 = .ok (.aload_n 0, 1) := by decide +kernel
theorem dX12_wed_1 : decode cX12_wed 1 = .ok (.aload_n 0, 1) := by decide +kernel
theorem dX12_wed_2 : decode cX12_wed 2 = .ok (.iload_n 1, 1) := by decide +kernel
theorem dX12_wed_3 : decode cX12_wed 3 = .ok (.iload_n 2, 1) := by decide +kernel
theorem dX12_wed_4 : decode cX12_wed 4 = .ok (.invokevirtual 302, 3) := by decide +kernel
theorem dX12_wed_7 : decode cX12_wed 7 = .ok (.putfield 51, 3) := by decide +kernel
theorem dX12_wed_10 : decode cX12_wed 10 = .ok (.aload_n 0, 1) := by decide +kernel
theorem dX12_wed_11 : decode cX12_wed 11 = .ok (.getfield 51, 3) := by decide +kernel
theorem dX12_wed_14 : decode cX12_wed 14 = .ok (.ifCond .ne 45, 3) := by decide +kernel
theorem dX12_wed_17 : decode cX12_wed 17 = .ok (.aload_n 0, 1) := by decide +kernel
theorem dX12_wed_18 : decode cX12_wed 18 = .ok (.aload_n 0, 1) := by decide +kernel
theorem dX12_wed_19 : decode cX12_wed 19 = .ok (.iload_n 1, 1) := by decide +kernel
theorem dX12_wed_20 : decode cX12_wed 20 = .ok (.invokevirtual 121, 3) := by decide +kernel
theorem dX12_wed_23 : decode cX12_wed 23 = .ok (.iconst (-1), 1) := by decide +kernel
theorem dX12_wed_24 : decode cX12_wed 24 = .ok (.if_icmp .ne 12, 3) := by decide +kernel
theorem dX12_wed_27 : decode cX12_wed 27 = .ok (.aload_n 0, 1) := by decide +kernel
theorem dX12_wed_28 : decode cX12_wed 28 = .ok (.iload_n 2, 1) := by decide +kernel
theorem dX12_wed_29 : decode cX12_wed 29 = .ok (.invokevirtual 121, 3) := by decide +kernel
theorem dX12_wed_32 : decode cX12_wed 32 = .ok (.iconst (-1), 1) := by decide +kernel
theorem dX12_wed_33 : decode cX12_wed 33 = .ok (.if_icmp .eq 7, 3) := by decide +kernel
theorem dX12_wed_36 : decode cX12_wed 36 = .ok (.iconst 3, 1) := by decide +kernel
theorem dX12_wed_37 : decode cX12_wed 37 = .ok (.goto 19, 3) := by decide +kernel
theorem dX12_wed_40 : decode cX12_wed 40 = .ok (.aload_n 0, 1) := by decide +kernel
theorem dX12_wed_41 : decode cX12_wed 41 = .ok (.getfield 7, 3) := by decide +kernel
theorem dX12_wed_44 : decode cX12_wed 44 = .ok (.iconst 4, 1) := by decide +kernel
theorem dX12_wed_45 : decode cX12_wed 45 = .ok (.iaload, 1) := by decide +kernel
theorem dX12_wed_46 : decode cX12_wed 46 = .ok (.bipush 20, 2) := by decide +kernel
theorem dX12_wed_48 : decode cX12_wed 48 = .ok (.if_icmp .ne 7, 3) := by decide +kernel
theorem dX12_wed_51 : decode cX12_wed 51 = .ok (.iconst 4, 1) := by decide +kernel
theorem dX12_wed_52 : decode cX12_wed 52 = .ok (.goto 4, 3) := by decide +kernel
theorem dX12_wed_55 : decode cX12_wed 55 = .ok (.iconst 0, 1) := by decide +kernel
theorem dX12_wed_56 : decode cX12_wed 56 = .ok (.putfield 51, 3) := by decide +kernel
theorem dX12_wed_59 : decode cX12_wed 59 = .ok (.aload_n 0, 1) := by decide +kernel
theorem dX12_wed_60 : decode cX12_wed 60 = .ok (.getfield 51, 3) := by decide +kernel
theorem dX12_wed_63 : decode cX12_wed 63 = .ok (.ifCond .le 5, 3) := by decide +kernel
theorem dX12_wed_66 : decode cX12_wed 66 = .ok (.iconst 0, 1) := by decide +kernel
theorem dX12_wed_67 : decode cX12_wed 67 = .ok (.ireturn, 1) := by decide +kernel
theorem dX12_wed_68 : decode cX12_wed 68 = .ok (.aload_n 0, 1) := by decide +kernel
theorem dX12_wed_69 : decode cX12_wed 69 = .ok (.invokevirtual 308, 3) := by decide +kernel
theorem dX12_wed_72 : decode cX12_wed 72 = .ok (.aload_n 0, 1) := by decide +kernel
theorem dX12_wed_73 : decode cX12_wed 73 = .ok (.iload_n 1, 1) := by decide +kernel
theorem dX12_wed_74 : decode cX12_wed 74 = .ok (.iload_n 2, 1) := by decide +kernel
theorem dX12_wed_75 : decode cX12_wed 75 = .ok (.bipush 50, 2) := by decide +kernel
theorem dX12_wed_77 : decode cX12_wed 77 = .ok (.invokevirtual 137, 3) := by decide +kernel
theorem dX12_wed_80 : decode cX12_wed 80 = .ok (.aload_n 0, 1) := by decide +kernel
theorem dX12_wed_81 : decode cX12_wed 81 = .ok (.getfield 7, 3) := by decide +kernel
theorem dX12_wed_84 : decode cX12_wed 84 = .ok (.iconst 4, 1) := by decide +kernel
theorem dX12_wed_85 : decode cX12_wed 85 = .ok (.iaload, 1) := by decide +kernel
theorem dX12_wed_86 : decode cX12_wed 86 = .ok (.iconst 1, 1) := by decide +kernel
theorem dX12_wed_87 : decode cX12_wed 87 = .ok (.isub, 1) := by decide +kernel
theorem dX12_wed_88 : decode cX12_wed 88 = .ok (.ireturn, 1) := by decide +kernel
theorem dX12_insures_0 : decode cX12_insures 0 = .ok (.aload_n 0, 1) := by decide +kernel
theorem dX12_insures_1 : decode cX12_insures 1 = .ok (.iload_n 2, 1) := by decide +kernel
theorem dX12_insures_2 : decode cX12_insures 2 = .ok (.invokevirtual 256, 3) := by decide +kernel
theorem dX12_insures_5 : decode cX12_insures 5 = .ok (.iload_n 1, 1) := by decide +kernel
theorem dX12_insures_6 : decode cX12_insures 6 = .ok (.invokestatic 65, 3) := by decide +kernel
theorem dX12_insures_9 : decode cX12_insures 9 = .ok (.ireturn, 1) := by decide +kernel
theorem dX12_gift_0 : decode cX12_gift 0 = .ok (.aload_n 0, 1) := by decide +kernel
theorem dX12_gift_1 : decode cX12_gift 1 = .ok (.aload_n 0, 1) := by decide +kernel
theorem dX12_gift_2 : decode cX12_gift 2 = .ok (.iload_n 1, 1) := by decide +kernel
theorem dX12_gift_3 : decode cX12_gift 3 = .ok (.invokevirtual 293, 3) := by decide +kernel
theorem dX12_gift_6 : decode cX12_gift 6 = .ok (.ifCond .eq 11, 3) := by decide +kernel
theorem dX12_gift_9 : decode cX12_gift 9 = .ok (.aload_n 0, 1) := by decide +kernel
theorem dX12_gift_10 : decode cX12_gift 10 = .ok (.iload_n 2, 1) := by decide +kernel
theorem dX12_gift_11 : decode cX12_gift 11 = .ok (.invokevirtual 305, 3) := by decide +kernel
theorem dX12_gift_14 : decode cX12_gift 14 = .ok (.ifCond .ne 7, 3) := by decide +kernel
theorem dX12_gift_17 : decode cX12_gift 17 = .ok (.iconst 1, 1) := by decide +kernel
theorem dX12_gift_18 : decode cX12_gift 18 = .ok (.goto 28, 3) := by decide +kernel
theorem dX12_gift_21 : decode cX12_gift 21 = .ok (.aload_n 0, 1) := by decide +kernel
theorem dX12_gift_22 : decode cX12_gift 22 = .ok (.iload_n 1, 1) := by decide +kernel
theorem dX12_gift_23 : decode cX12_gift 23 = .ok (.iload_n 2, 1) := by decide +kernel
theorem dX12_gift_24 : decode cX12_gift 24 = .ok (.invokevirtual 311, 3) := by decide +kernel
theorem dX12_gift_27 : decode cX12_gift 27 = .ok (.ifCond .eq 14, 3) := by decide +kernel
theorem dX12_gift_30 : decode cX12_gift 30 = .ok (.aload_n 0, 1) := by decide +kernel
theorem dX12_gift_31 : decode cX12_gift 31 = .ok (.iload_n 1, 1) := by decide +kernel
theorem dX12_gift_32 : decode cX12_gift 32 = .ok (.iconst 0, 1) := by decide +kernel
theorem dX12_gift_33 : decode cX12_gift 33 = .ok (.invokevirtual 62, 3) := by decide +kernel
theorem dX12_gift_36 : decode cX12_gift 36 = .ok (.bipush 10, 2) := by decide +kernel
theorem dX12_gift_38 : decode cX12_gift 38 = .ok (.if_icmp .ge 7, 3) := by decide +kernel
theorem dX12_gift_41 : decode cX12_gift 41 = .ok (.iconst 2, 1) := by decide +kernel
theorem dX12_gift_42 : decode cX12_gift 42 = .ok (.goto 4, 3) := by decide +kernel
theorem dX12_gift_45 : decode cX12_gift 45 = .ok (.iconst 0, 1) := by decide +kernel
theorem dX12_gift_46 : decode cX12_gift 46 = .ok (.putfield 51, 3) := by decide +kernel
theorem dX12_gift_49 : decode cX12_gift 49 = .ok (.aload_n 0, 1) := by decide +kernel
theorem dX12_gift_50 : decode cX12_gift 50 = .ok (.getfield 51, 3) := by decide +kernel
theorem dX12_gift_53 : decode cX12_gift 53 = .ok (.ifCond .le 5, 3) := by decide +kernel
theorem dX12_gift_56 : decode cX12_gift 56 = .ok (.iconst 0, 1) := by decide +kernel
theorem dX12_gift_57 : decode cX12_gift 57 = .ok (.ireturn, 1) := by decide +kernel
theorem dX12_gift_58 : decode cX12_gift 58 = .ok (.aload_n 0, 1) := by decide +kernel
theorem dX12_gift_59 : decode cX12_gift 59 = .ok (.invokevirtual 308, 3) := by decide +kernel
theorem dX12_gift_62 : decode cX12_gift 62 = .ok (.aload_n 0, 1) := by decide +kernel
theorem dX12_gift_63 : decode cX12_gift 63 = .ok (.iload_n 1, 1) := by decide +kernel
theorem dX12_gift_64 : decode cX12_gift 64 = .ok (.iconst 0, 1) := by decide +kernel
theorem dX12_gift_65 : decode cX12_gift 65 = .ok (.aload_n 0, 1) := by decide +kernel
theorem dX12_gift_66 : decode cX12_gift 66 = .ok (.iload_n 1, 1) := by decide +kernel
theorem dX12_gift_67 : decode cX12_gift 67 = .ok (.iconst 0, 1) := by decide +kernel
theorem dX12_gift_68 : decode cX12_gift 68 = .ok (.invokevirtual 62, 3) := by decide +kernel
theorem dX12_gift_71 : decode cX12_gift 71 = .ok (.bipush 10, 2) := by decide +kernel
theorem dX12_gift_73 : decode cX12_gift 73 = .ok (.isub, 1) := by decide +kernel
theorem dX12_gift_74 : decode cX12_gift 74 = .ok (.invokevirtual 144, 3) := by decide +kernel
theorem dX12_gift_77 : decode cX12_gift 77 = .ok (.aload_n 0, 1) := by decide +kernel
theorem dX12_gift_78 : decode cX12_gift 78 = .ok (.iload_n 2, 1) := by decide +kernel
theorem dX12_gift_79 : decode cX12_gift 79 = .ok (.iconst 2, 1) := by decide +kernel
theorem dX12_gift_80 : decode cX12_gift 80 = .ok (.bipush 99, 2) := by decide +kernel
theorem dX12_gift_82 : decode cX12_gift 82 = .ok (.aload_n 0, 1) := by decide +kernel
theorem dX12_gift_83 : decode cX12_gift 83 = .ok (.iload_n 2, 1) := by decide +kernel
theorem dX12_gift_84 : decode cX12_gift 84 = .ok (.iconst 2, 1) := by decide +kernel
theorem dX12_gift_85 : decode cX12_gift 85 = .ok (.invokevirtual 58, 3) := by decide +kernel
theorem dX12_gift_88 : decode cX12_gift 88 = .ok (.iconst 5, 1) := by decide +kernel
theorem dX12_gift_89 : decode cX12_gift 89 = .ok (.iadd, 1) := by decide +kernel
theorem dX12_gift_90 : decode cX12_gift 90 = .ok (.invokestatic 263, 3) := by decide +kernel
theorem dX12_gift_93 : decode cX12_gift 93 = .ok (.invokevirtual 141, 3) := by decide +kernel
theorem dX12_gift_96 : decode cX12_gift 96 = .ok (.aload_n 0, 1) := by decide +kernel
theorem dX12_gift_97 : decode cX12_gift 97 = .ok (.iload_n 2, 1) := by decide +kernel
theorem dX12_gift_98 : decode cX12_gift 98 = .ok (.iconst 2, 1) := by decide +kernel
theorem dX12_gift_99 : decode cX12_gift 99 = .ok (.invokevirtual 58, 3) := by decide +kernel
theorem dX12_gift_102 : decode cX12_gift 102 = .ok (.ireturn, 1) := by decide +kernel
theorem dX12_meddle_0 : decode cX12_meddle 0 = .ok (.aload_n 0, 1) := by decide +kernel
theorem dX12_meddle_1 : decode cX12_meddle 1 = .ok (.aload_n 0, 1) := by decide +kernel
theorem dX12_meddle_2 : decode cX12_meddle 2 = .ok (.iload_n 1, 1) := by decide +kernel
theorem dX12_meddle_3 : decode cX12_meddle 3 = .ok (.invokevirtual 293, 3) := by decide +kernel
theorem dX12_meddle_6 : decode cX12_meddle 6 = .ok (.ifCond .eq 11, 3) := by decide +kernel
theorem dX12_meddle_9 : decode cX12_meddle 9 = .ok (.aload_n 0, 1) := by decide +kernel
theorem dX12_meddle_10 : decode cX12_meddle 10 = .ok (.iload_n 2, 1) := by decide +kernel
theorem dX12_meddle_11 : decode cX12_meddle 11 = .ok (.invokevirtual 305, 3) := by decide +kernel
theorem dX12_meddle_14 : decode cX12_meddle 14 = .ok (.ifCond .ne 7, 3) := by decide +kernel
theorem dX12_meddle_17 : decode cX12_meddle 17 = .ok (.iconst 1, 1) := by decide +kernel
theorem dX12_meddle_18 : decode cX12_meddle 18 = .ok (.goto 17, 3) := by decide +kernel
theorem dX12_meddle_21 : decode cX12_meddle 21 = .ok (.aload_n 0, 1) := by decide +kernel
theorem dX12_meddle_22 : decode cX12_meddle 22 = .ok (.iload_n 1, 1) := by decide +kernel
theorem dX12_meddle_23 : decode cX12_meddle 23 = .ok (.iload_n 2, 1) := by decide +kernel
theorem dX12_meddle_24 : decode cX12_meddle 24 = .ok (.invokevirtual 311, 3) := by decide +kernel
theorem dX12_meddle_27 : decode cX12_meddle 27 = .ok (.ifCond .ne 7, 3) := by decide +kernel
theorem dX12_meddle_30 : decode cX12_meddle 30 = .ok (.iconst 2, 1) := by decide +kernel
theorem dX12_meddle_31 : decode cX12_meddle 31 = .ok (.goto 4, 3) := by decide +kernel
theorem dX12_meddle_34 : decode cX12_meddle 34 = .ok (.iconst 0, 1) := by decide +kernel
theorem dX12_meddle_35 : decode cX12_meddle 35 = .ok (.putfield 51, 3) := by decide +kernel
theorem dX12_meddle_38 : decode cX12_meddle 38 = .ok (.aload_n 0, 1) := by decide +kernel
theorem dX12_meddle_39 : decode cX12_meddle 39 = .ok (.getfield 51, 3) := by decide +kernel
theorem dX12_meddle_42 : decode cX12_meddle 42 = .ok (.ifCond .le 5, 3) := by decide +kernel
theorem dX12_meddle_45 : decode cX12_meddle 45 = .ok (.iconst 0, 1) := by decide +kernel
theorem dX12_meddle_46 : decode cX12_meddle 46 = .ok (.ireturn, 1) := by decide +kernel
theorem dX12_meddle_47 : decode cX12_meddle 47 = .ok (.aload_n 0, 1) := by decide +kernel
theorem dX12_meddle_48 : decode cX12_meddle 48 = .ok (.invokevirtual 308, 3) := by decide +kernel
theorem dX12_meddle_51 : decode cX12_meddle 51 = .ok (.aload_n 0, 1) := by decide +kernel
theorem dX12_meddle_52 : decode cX12_meddle 52 = .ok (.iload_n 2, 1) := by decide +kernel
theorem dX12_meddle_53 : decode cX12_meddle 53 = .ok (.iconst 2, 1) := by decide +kernel
theorem dX12_meddle_54 : decode cX12_meddle 54 = .ok (.iconst 0, 1) := by decide +kernel
theorem dX12_meddle_55 : decode cX12_meddle 55 = .ok (.aload_n 0, 1) := by decide +kernel
theorem dX12_meddle_56 : decode cX12_meddle 56 = .ok (.iload_n 2, 1) := by decide +kernel
theorem dX12_meddle_57 : decode cX12_meddle 57 = .ok (.iconst 2, 1) := by decide +kernel
theorem dX12_meddle_58 : decode cX12_meddle 58 = .ok (.invokevirtual 58, 3) := by decide +kernel
theorem dX12_meddle_61 : decode cX12_meddle 61 = .ok (.iconst 5, 1) := by decide +kernel
theorem dX12_meddle_62 : decode cX12_meddle 62 = .ok (.isub, 1) := by decide +kernel
theorem dX12_meddle_63 : decode cX12_meddle 63 = .ok (.invokestatic 266, 3) := by decide +kernel
theorem dX12_meddle_66 : decode cX12_meddle 66 = .ok (.invokevirtual 141, 3) := by decide +kernel
theorem dX12_meddle_69 : decode cX12_meddle 69 = .ok (.aload_n 0, 1) := by decide +kernel
theorem dX12_meddle_70 : decode cX12_meddle 70 = .ok (.iload_n 2, 1) := by decide +kernel
theorem dX12_meddle_71 : decode cX12_meddle 71 = .ok (.iconst 2, 1) := by decide +kernel
theorem dX12_meddle_72 : decode cX12_meddle 72 = .ok (.invokevirtual 58, 3) := by decide +kernel
theorem dX12_meddle_75 : decode cX12_meddle 75 = .ok (.ireturn, 1) := by decide +kernel
theorem dX12_reinsure_0 : decode cX12_reinsure 0 = .ok (.aload_n 0, 1) := by decide +kernel
theorem dX12_reinsure_1 : decode cX12_reinsure 1 = .ok (.aload_n 0, 1) := by decide +kernel
theorem dX12_reinsure_2 : decode cX12_reinsure 2 = .ok (.iload_n 1, 1) := by decide +kernel
theorem dX12_reinsure_3 : decode cX12_reinsure 3 = .ok (.invokevirtual 293, 3) := by decide +kernel
theorem dX12_reinsure_6 : decode cX12_reinsure 6 = .ok (.ifCond .eq 16, 3) := by decide +kernel
theorem dX12_reinsure_9 : decode cX12_reinsure 9 = .ok (.iload_n 2, 1) := by decide +kernel
theorem dX12_reinsure_10 : decode cX12_reinsure 10 = .ok (.iconst (-1), 1) := by decide +kernel
theorem dX12_reinsure_11 : decode cX12_reinsure 11 = .ok (.if_icmp .eq 15, 3) := by decide +kernel
theorem dX12_reinsure_14 : decode cX12_reinsure 14 = .ok (.aload_n 0, 1) := by decide +kernel
theorem dX12_reinsure_15 : decode cX12_reinsure 15 = .ok (.iload_n 2, 1) := by decide +kernel
theorem dX12_reinsure_16 : decode cX12_reinsure 16 = .ok (.invokevirtual 293, 3) := by decide +kernel
theorem dX12_reinsure_19 : decode cX12_reinsure 19 = .ok (.ifCond .ne 7, 3) := by decide +kernel
theorem dX12_reinsure_22 : decode cX12_reinsure 22 = .ok (.iconst 1, 1) := by decide +kernel
theorem dX12_reinsure_23 : decode cX12_reinsure 23 = .ok (.goto 13, 3) := by decide +kernel
theorem dX12_reinsure_26 : decode cX12_reinsure 26 = .ok (.iload_n 1, 1) := by decide +kernel
theorem dX12_reinsure_27 : decode cX12_reinsure 27 = .ok (.iload_n 2, 1) := by decide +kernel
theorem dX12_reinsure_28 : decode cX12_reinsure 28 = .ok (.if_icmp .ne 7, 3) := by decide +kernel
theorem dX12_reinsure_31 : decode cX12_reinsure 31 = .ok (.iconst 2, 1) := by decide +kernel
theorem dX12_reinsure_32 : decode cX12_reinsure 32 = .ok (.goto 4, 3) := by decide +kernel
theorem dX12_reinsure_35 : decode cX12_reinsure 35 = .ok (.iconst 0, 1) := by decide +kernel
theorem dX12_reinsure_36 : decode cX12_reinsure 36 = .ok (.putfield 51, 3) := by decide +kernel
theorem dX12_reinsure_39 : decode cX12_reinsure 39 = .ok (.aload_n 0, 1) := by decide +kernel
theorem dX12_reinsure_40 : decode cX12_reinsure 40 = .ok (.getfield 51, 3) := by decide +kernel
theorem dX12_reinsure_43 : decode cX12_reinsure 43 = .ok (.ifCond .le 5, 3) := by decide +kernel
theorem dX12_reinsure_46 : decode cX12_reinsure 46 = .ok (.iconst 0, 1) := by decide +kernel
theorem dX12_reinsure_47 : decode cX12_reinsure 47 = .ok (.ireturn, 1) := by decide +kernel
theorem dX12_reinsure_48 : decode cX12_reinsure 48 = .ok (.aload_n 0, 1) := by decide +kernel
theorem dX12_reinsure_49 : decode cX12_reinsure 49 = .ok (.invokevirtual 308, 3) := by decide +kernel
theorem dX12_reinsure_52 : decode cX12_reinsure 52 = .ok (.aload_n 0, 1) := by decide +kernel
theorem dX12_reinsure_53 : decode cX12_reinsure 53 = .ok (.iload_n 1, 1) := by decide +kernel
theorem dX12_reinsure_54 : decode cX12_reinsure 54 = .ok (.iconst 2, 1) := by decide +kernel
theorem dX12_reinsure_55 : decode cX12_reinsure 55 = .ok (.invokevirtual 62, 3) := by decide +kernel
theorem dX12_reinsure_58 : decode cX12_reinsure 58 = .ok (.istore_n 3, 1) := by decide +kernel
theorem dX12_reinsure_59 : decode cX12_reinsure 59 = .ok (.aload_n 0, 1) := by decide +kernel
theorem dX12_reinsure_60 : decode cX12_reinsure 60 = .ok (.iload_n 1, 1) := by decide +kernel
theorem dX12_reinsure_61 : decode cX12_reinsure 61 = .ok (.iconst 2, 1) := by decide +kernel
theorem dX12_reinsure_62 : decode cX12_reinsure 62 = .ok (.iload_n 2, 1) := by decide +kernel
theorem dX12_reinsure_63 : decode cX12_reinsure 63 = .ok (.invokevirtual 144, 3) := by decide +kernel
theorem dX12_reinsure_66 : decode cX12_reinsure 66 = .ok (.iload_n 3, 1) := by decide +kernel
theorem dX12_reinsure_67 : decode cX12_reinsure 67 = .ok (.ireturn, 1) := by decide +kernel
theorem dX12_part__0 : decode cX12_part_ 0 = .ok (.aload_n 0, 1) := by decide +kernel
theorem dX12_part__1 : decode cX12_part_ 1 = .ok (.aload_n 0, 1) := by decide +kernel
theorem dX12_part__2 : decode cX12_part_ 2 = .ok (.iload_n 1, 1) := by decide +kernel
theorem dX12_part__3 : decode cX12_part_ 3 = .ok (.invokevirtual 305, 3) := by decide +kernel
theorem dX12_part__6 : decode cX12_part_ 6 = .ok (.ifCond .ne 7, 3) := by decide +kernel
theorem dX12_part__9 : decode cX12_part_ 9 = .ok (.iconst 1, 1) := by decide +kernel
theorem dX12_part__10 : decode cX12_part_ 10 = .ok (.goto 18, 3) := by decide +kernel
theorem dX12_part__13 : decode cX12_part_ 13 = .ok (.aload_n 0, 1) := by decide +kernel
theorem dX12_part__14 : decode cX12_part_ 14 = .ok (.iload_n 1, 1) := by decide +kernel
theorem dX12_part__15 : decode cX12_part_ 15 = .ok (.iconst 4, 1) := by decide +kernel
theorem dX12_part__16 : decode cX12_part_ 16 = .ok (.invokevirtual 58, 3) := by decide +kernel
theorem dX12_part__19 : decode cX12_part_ 19 = .ok (.iconst 1, 1) := by decide +kernel
theorem dX12_part__20 : decode cX12_part_ 20 = .ok (.if_icmp .ne 7, 3) := by decide +kernel
theorem dX12_part__23 : decode cX12_part_ 23 = .ok (.iconst 2, 1) := by decide +kernel
theorem dX12_part__24 : decode cX12_part_ 24 = .ok (.goto 4, 3) := by decide +kernel
theorem dX12_part__27 : decode cX12_part_ 27 = .ok (.iconst 0, 1) := by decide +kernel
theorem dX12_part__28 : decode cX12_part_ 28 = .ok (.putfield 51, 3) := by decide +kernel
theorem dX12_part__31 : decode cX12_part_ 31 = .ok (.aload_n 0, 1) := by decide +kernel
theorem dX12_part__32 : decode cX12_part_ 32 = .ok (.getfield 51, 3) := by decide +kernel
theorem dX12_part__35 : decode cX12_part_ 35 = .ok (.ifCond .le 5, 3) := by decide +kernel
theorem dX12_part__38 : decode cX12_part_ 38 = .ok (.iconst 0, 1) := by decide +kernel
theorem dX12_part__39 : decode cX12_part_ 39 = .ok (.ireturn, 1) := by decide +kernel
theorem dX12_part__40 : decode cX12_part_ 40 = .ok (.aload_n 0, 1) := by decide +kernel
theorem dX12_part__41 : decode cX12_part_ 41 = .ok (.invokevirtual 308, 3) := by decide +kernel
theorem dX12_part__44 : decode cX12_part_ 44 = .ok (.aload_n 0, 1) := by decide +kernel
theorem dX12_part__45 : decode cX12_part_ 45 = .ok (.iload_n 1, 1) := by decide +kernel
theorem dX12_part__46 : decode cX12_part_ 46 = .ok (.iconst 4, 1) := by decide +kernel
theorem dX12_part__47 : decode cX12_part_ 47 = .ok (.iconst 1, 1) := by decide +kernel
theorem dX12_part__48 : decode cX12_part_ 48 = .ok (.invokevirtual 141, 3) := by decide +kernel
theorem dX12_part__51 : decode cX12_part_ 51 = .ok (.aload_n 0, 1) := by decide +kernel
theorem dX12_part__52 : decode cX12_part_ 52 = .ok (.iload_n 1, 1) := by decide +kernel
theorem dX12_part__53 : decode cX12_part_ 53 = .ok (.iconst 2, 1) := by decide +kernel
theorem dX12_part__54 : decode cX12_part_ 54 = .ok (.invokevirtual 58, 3) := by decide +kernel
theorem dX12_part__57 : decode cX12_part_ 57 = .ok (.ireturn, 1) := by decide +kernel
theorem dX12_months_0 : decode cX12_months 0 = .ok (.aload_n 0, 1) := by decide +kernel
theorem dX12_months_1 : decode cX12_months 1 = .ok (.iload_n 1, 1) := by decide +kernel
theorem dX12_months_2 : decode cX12_months 2 = .ok (.iconst 1, 1) := by decide +kernel
theorem dX12_months_3 : decode cX12_months 3 = .ok (.bipush 60, 2) := by decide +kernel
theorem dX12_months_5 : decode cX12_months 5 = .ok (.invokestatic 54, 3) := by decide +kernel
theorem dX12_months_8 : decode cX12_months 8 = .ok (.ifCond .ne 7, 3) := by decide +kernel
theorem dX12_months_11 : decode cX12_months 11 = .ok (.iconst 1, 1) := by decide +kernel
theorem dX12_months_12 : decode cX12_months 12 = .ok (.goto 4, 3) := by decide +kernel
theorem dX12_months_15 : decode cX12_months 15 = .ok (.iconst 0, 1) := by decide +kernel
theorem dX12_months_16 : decode cX12_months 16 = .ok (.putfield 51, 3) := by decide +kernel
theorem dX12_months_19 : decode cX12_months 19 = .ok (.aload_n 0, 1) := by decide +kernel
theorem dX12_months_20 : decode cX12_months 20 = .ok (.getfield 51, 3) := by decide +kernel
theorem dX12_months_23 : decode cX12_months 23 = .ok (.ifCond .le 5, 3) := by decide +kernel
theorem dX12_months_26 : decode cX12_months 26 = .ok (.iconst 0, 1) := by decide +kernel
theorem dX12_months_27 : decode cX12_months 27 = .ok (.ireturn, 1) := by decide +kernel
theorem dX12_months_28 : decode cX12_months 28 = .ok (.aload_n 0, 1) := by decide +kernel
theorem dX12_months_29 : decode cX12_months 29 = .ok (.invokevirtual 308, 3) := by decide +kernel
theorem dX12_months_32 : decode cX12_months 32 = .ok (.aload_n 0, 1) := by decide +kernel
theorem dX12_months_33 : decode cX12_months 33 = .ok (.iload_n 1, 1) := by decide +kernel
theorem dX12_months_34 : decode cX12_months 34 = .ok (.invokevirtual 314, 3) := by decide +kernel
theorem dX12_months_37 : decode cX12_months 37 = .ok (.ireturn, 1) := by decide +kernel
theorem dX12_would_0 : decode cX12_would 0 = .ok (.aload_n 0, 1) := by decide +kernel
theorem dX12_would_1 : decode cX12_would 1 = .ok (.aload_n 0, 1) := by decide +kernel
theorem dX12_would_2 : decode cX12_would 2 = .ok (.iload_n 1, 1) := by decide +kernel
theorem dX12_would_3 : decode cX12_would 3 = .ok (.iload_n 2, 1) := by decide +kernel
theorem dX12_would_4 : decode cX12_would 4 = .ok (.invokevirtual 302, 3) := by decide +kernel
theorem dX12_would_7 : decode cX12_would 7 = .ok (.putfield 51, 3) := by decide +kernel
theorem dX12_would_10 : decode cX12_would 10 = .ok (.aload_n 0, 1) := by decide +kernel
theorem dX12_would_11 : decode cX12_would 11 = .ok (.getfield 51, 3) := by decide +kernel
theorem dX12_would_14 : decode cX12_would 14 = .ok (.ifCond .le 7, 3) := by decide +kernel
theorem dX12_would_17 : decode cX12_would 17 = .ok (.iconst 0, 1) := by decide +kernel
theorem dX12_would_18 : decode cX12_would 18 = .ok (.goto 9, 3) := by decide +kernel
theorem dX12_would_21 : decode cX12_would 21 = .ok (.aload_n 0, 1) := by decide +kernel
theorem dX12_would_22 : decode cX12_would 22 = .ok (.iload_n 1, 1) := by decide +kernel
theorem dX12_would_23 : decode cX12_would 23 = .ok (.iload_n 2, 1) := by decide +kernel
theorem dX12_would_24 : decode cX12_would 24 = .ok (.invokevirtual 73, 3) := by decide +kernel
theorem dX12_would_27 : decode cX12_would 27 = .ok (.ireturn, 1) := by decide +kernel
theorem dX12_best_0 : decode cX12_best 0 = .ok (.aload_n 0, 1) := by decide +kernel
theorem dX12_best_1 : decode cX12_best 1 = .ok (.aload_n 0, 1) := by decide +kernel
theorem dX12_best_2 : decode cX12_best 2 = .ok (.iload_n 1, 1) := by decide +kernel
theorem dX12_best_3 : decode cX12_best 3 = .ok (.invokevirtual 293, 3) := by decide +kernel
theorem dX12_best_6 : decode cX12_best 6 = .ok (.ifCond .ne 7, 3) := by decide +kernel
theorem dX12_best_9 : decode cX12_best 9 = .ok (.iconst 1, 1) := by decide +kernel
theorem dX12_best_10 : decode cX12_best 10 = .ok (.goto 4, 3) := by decide +kernel
theorem dX12_best_13 : decode cX12_best 13 = .ok (.iconst 0, 1) := by decide +kernel
theorem dX12_best_14 : decode cX12_best 14 = .ok (.putfield 51, 3) := by decide +kernel
theorem dX12_best_17 : decode cX12_best 17 = .ok (.aload_n 0, 1) := by decide +kernel
theorem dX12_best_18 : decode cX12_best 18 = .ok (.getfield 51, 3) := by decide +kernel
theorem dX12_best_21 : decode cX12_best 21 = .ok (.ifCond .le 5, 3) := by decide +kernel
theorem dX12_best_24 : decode cX12_best 24 = .ok (.iconst 0, 1) := by decide +kernel
theorem dX12_best_25 : decode cX12_best 25 = .ok (.ireturn, 1) := by decide +kernel
theorem dX12_best_26 : decode cX12_best 26 = .ok (.iconst (-1), 1) := by decide +kernel
theorem dX12_best_27 : decode cX12_best 27 = .ok (.istore_n 2, 1) := by decide +kernel
theorem dX12_best_28 : decode cX12_best 28 = .ok (.iconst 0, 1) := by decide +kernel
theorem dX12_best_29 : decode cX12_best 29 = .ok (.istore_n 3, 1) := by decide +kernel
theorem dX12_best_30 : decode cX12_best 30 = .ok (.iload_n 3, 1) := by decide +kernel
theorem dX12_best_31 : decode cX12_best 31 = .ok (.aload_n 0, 1) := by decide +kernel
theorem dX12_best_32 : decode cX12_best 32 = .ok (.getfield 7, 3) := by decide +kernel
theorem dX12_best_35 : decode cX12_best 35 = .ok (.iconst 3, 1) := by decide +kernel
theorem dX12_best_36 : decode cX12_best 36 = .ok (.iaload, 1) := by decide +kernel
theorem dX12_best_37 : decode cX12_best 37 = .ok (.if_icmp .ge 92, 3) := by decide +kernel
theorem dX12_best_40 : decode cX12_best 40 = .ok (.iload_n 3, 1) := by decide +kernel
theorem dX12_best_41 : decode cX12_best 41 = .ok (.iload_n 1, 1) := by decide +kernel
theorem dX12_best_42 : decode cX12_best 42 = .ok (.if_icmp .eq 81, 3) := by decide +kernel
theorem dX12_best_45 : decode cX12_best 45 = .ok (.aload_n 0, 1) := by decide +kernel
theorem dX12_best_46 : decode cX12_best 46 = .ok (.iload_n 1, 1) := by decide +kernel
theorem dX12_best_47 : decode cX12_best 47 = .ok (.invokevirtual 121, 3) := by decide +kernel
theorem dX12_best_50 : decode cX12_best 50 = .ok (.iconst (-1), 1) := by decide +kernel
theorem dX12_best_51 : decode cX12_best 51 = .ok (.if_icmp .ne 72, 3) := by decide +kernel
theorem dX12_best_54 : decode cX12_best 54 = .ok (.aload_n 0, 1) := by decide +kernel
theorem dX12_best_55 : decode cX12_best 55 = .ok (.iload_n 3, 1) := by decide +kernel
theorem dX12_best_56 : decode cX12_best 56 = .ok (.invokevirtual 121, 3) := by decide +kernel
theorem dX12_best_59 : decode cX12_best 59 = .ok (.iconst (-1), 1) := by decide +kernel
theorem dX12_best_60 : decode cX12_best 60 = .ok (.if_icmp .eq 6, 3) := by decide +kernel
theorem dX12_best_63 : decode cX12_best 63 = .ok (.goto 60, 3) := by decide +kernel
theorem dX12_best_66 : decode cX12_best 66 = .ok (.iload_n 2, 1) := by decide +kernel
theorem dX12_best_67 : decode cX12_best 67 = .ok (.iconst (-1), 1) := by decide +kernel
theorem dX12_best_68 : decode cX12_best 68 = .ok (.if_icmp .ne 7, 3) := by decide +kernel
theorem dX12_best_71 : decode cX12_best 71 = .ok (.iconst 1, 1) := by decide +kernel
theorem dX12_best_72 : decode cX12_best 72 = .ok (.goto 22, 3) := by decide +kernel
theorem dX12_best_75 : decode cX12_best 75 = .ok (.aload_n 0, 1) := by decide +kernel
theorem dX12_best_76 : decode cX12_best 76 = .ok (.iload_n 1, 1) := by decide +kernel
theorem dX12_best_77 : decode cX12_best 77 = .ok (.iload_n 3, 1) := by decide +kernel
theorem dX12_best_78 : decode cX12_best 78 = .ok (.invokevirtual 73, 3) := by decide +kernel
theorem dX12_best_81 : decode cX12_best 81 = .ok (.invokestatic 69, 3) := by decide +kernel
theorem dX12_best_84 : decode cX12_best 84 = .ok (.aload_n 0, 1) := by decide +kernel
theorem dX12_best_85 : decode cX12_best 85 = .ok (.iload_n 1, 1) := by decide +kernel
theorem dX12_best_86 : decode cX12_best 86 = .ok (.iload_n 2, 1) := by decide +kernel
theorem dX12_best_87 : decode cX12_best 87 = .ok (.invokevirtual 73, 3) := by decide +kernel
theorem dX12_best_90 : decode cX12_best 90 = .ok (.invokestatic 69, 3) := by decide +kernel
theorem dX12_best_93 : decode cX12_best 93 = .ok (.isub, 1) := by decide +kernel
theorem dX12_best_94 : decode cX12_best 94 = .ok (.istore 4, 2) := by decide +kernel
theorem dX12_best_96 : decode cX12_best 96 = .ok (.iload 4, 2) := by decide +kernel
theorem dX12_best_98 : decode cX12_best 98 = .ok (.ifCond .gt 23, 3) := by decide +kernel
theorem dX12_best_101 : decode cX12_best 101 = .ok (.iload 4, 2) := by decide +kernel
theorem dX12_best_103 : decode cX12_best 103 = .ok (.ifCond .ne 20, 3) := by decide +kernel
theorem dX12_best_106 : decode cX12_best 106 = .ok (.aload_n 0, 1) := by decide +kernel
theorem dX12_best_107 : decode cX12_best 107 = .ok (.iload_n 1, 1) := by decide +kernel
theorem dX12_best_108 : decode cX12_best 108 = .ok (.iload_n 3, 1) := by decide +kernel
theorem dX12_best_109 : decode cX12_best 109 = .ok (.invokevirtual 258, 3) := by decide +kernel
theorem dX12_best_112 : decode cX12_best 112 = .ok (.aload_n 0, 1) := by decide +kernel
theorem dX12_best_113 : decode cX12_best 113 = .ok (.iload_n 1, 1) := by decide +kernel
theorem dX12_best_114 : decode cX12_best 114 = .ok (.iload_n 2, 1) := by decide +kernel
theorem dX12_best_115 : decode cX12_best 115 = .ok (.invokevirtual 258, 3) := by decide +kernel
theorem dX12_best_118 : decode cX12_best 118 = .ok (.if_icmp .le 5, 3) := by decide +kernel
theorem dX12_best_121 : decode cX12_best 121 = .ok (.iload_n 3, 1) := by decide +kernel
theorem dX12_best_122 : decode cX12_best 122 = .ok (.istore_n 2, 1) := by decide +kernel
theorem dX12_best_123 : decode cX12_best 123 = .ok (.iinc 3 1, 3) := by decide +kernel
theorem dX12_best_126 : decode cX12_best 126 = .ok (.goto (-96), 3) := by decide +kernel
theorem dX12_best_129 : decode cX12_best 129 = .ok (.iload_n 2, 1) := by decide +kernel
theorem dX12_best_130 : decode cX12_best 130 = .ok (.ireturn, 1) := by decide +kernel
theorem dX12_badMatch_0 : decode cX12_badMatch 0 = .ok (.aload_n 0, 1) := by decide +kernel
theorem dX12_badMatch_1 : decode cX12_badMatch 1 = .ok (.iload_n 1, 1) := by decide +kernel
theorem dX12_badMatch_2 : decode cX12_badMatch 2 = .ok (.invokevirtual 305, 3) := by decide +kernel
theorem dX12_badMatch_5 : decode cX12_badMatch 5 = .ok (.ifCond .ne 7, 3) := by decide +kernel
theorem dX12_badMatch_8 : decode cX12_badMatch 8 = .ok (.iconst 1, 1) := by decide +kernel
theorem dX12_badMatch_9 : decode cX12_badMatch 9 = .ok (.goto 38, 3) := by decide +kernel
theorem dX12_badMatch_12 : decode cX12_badMatch 12 = .ok (.iload_n 2, 1) := by decide +kernel
theorem dX12_badMatch_13 : decode cX12_badMatch 13 = .ok (.iload_n 3, 1) := by decide +kernel
theorem dX12_badMatch_14 : decode cX12_badMatch 14 = .ok (.bipush 20, 2) := by decide +kernel
theorem dX12_badMatch_16 : decode cX12_badMatch 16 = .ok (.if_icmp .ne 7, 3) := by decide +kernel
theorem dX12_badMatch_19 : decode cX12_badMatch 19 = .ok (.iconst 1, 1) := by decide +kernel
theorem dX12_badMatch_20 : decode cX12_badMatch 20 = .ok (.goto 4, 3) := by decide +kernel
theorem dX12_badMatch_23 : decode cX12_badMatch 23 = .ok (.iconst 0, 1) := by decide +kernel
theorem dX12_badMatch_24 : decode cX12_badMatch 24 = .ok (.iload_n 3, 1) := by decide +kernel
theorem dX12_badMatch_25 : decode cX12_badMatch 25 = .ok (.invokestatic 54, 3) := by decide +kernel
theorem dX12_badMatch_28 : decode cX12_badMatch 28 = .ok (.ifCond .eq 14, 3) := by decide +kernel
theorem dX12_badMatch_31 : decode cX12_badMatch 31 = .ok (.iload 4, 2) := by decide +kernel
theorem dX12_badMatch_33 : decode cX12_badMatch 33 = .ok (.iconst 0, 1) := by decide +kernel
theorem dX12_badMatch_34 : decode cX12_badMatch 34 = .ok (.bipush 9, 2) := by decide +kernel
theorem dX12_badMatch_36 : decode cX12_badMatch 36 = .ok (.invokestatic 54, 3) := by decide +kernel
theorem dX12_badMatch_39 : decode cX12_badMatch 39 = .ok (.ifCond .ne 7, 3) := by decide +kernel
theorem dX12_badMatch_42 : decode cX12_badMatch 42 = .ok (.iconst 2, 1) := by decide +kernel
theorem dX12_badMatch_43 : decode cX12_badMatch 43 = .ok (.goto 4, 3) := by decide +kernel
theorem dX12_badMatch_46 : decode cX12_badMatch 46 = .ok (.iconst 0, 1) := by decide +kernel
theorem dX12_badMatch_47 : decode cX12_badMatch 47 = .ok (.ireturn, 1) := by decide +kernel
theorem dX12_next_0 : decode cX12_next 0 = .ok (.aload_n 0, 1) := by decide +kernel
theorem dX12_next_1 : decode cX12_next 1 = .ok (.aload_n 0, 1) := by decide +kernel
theorem dX12_next_2 : decode cX12_next 2 = .ok (.iload_n 1, 1) := by decide +kernel
theorem dX12_next_3 : decode cX12_next 3 = .ok (.iconst 0, 1) := by decide +kernel
theorem dX12_next_4 : decode cX12_next 4 = .ok (.iconst 0, 1) := by decide +kernel
theorem dX12_next_5 : decode cX12_next 5 = .ok (.iload_n 2, 1) := by decide +kernel
theorem dX12_next_6 : decode cX12_next 6 = .ok (.invokevirtual 317, 3) := by decide +kernel
theorem dX12_next_9 : decode cX12_next 9 = .ok (.putfield 51, 3) := by decide +kernel
theorem dX12_next_12 : decode cX12_next 12 = .ok (.aload_n 0, 1) := by decide +kernel
theorem dX12_next_13 : decode cX12_next 13 = .ok (.getfield 51, 3) := by decide +kernel
theorem dX12_next_16 : decode cX12_next 16 = .ok (.ifCond .gt 13, 3) := by decide +kernel
theorem dX12_next_19 : decode cX12_next 19 = .ok (.aload_n 0, 1) := by decide +kernel
theorem dX12_next_20 : decode cX12_next 20 = .ok (.iload_n 1, 1) := by decide +kernel
theorem dX12_next_21 : decode cX12_next 21 = .ok (.iconst 4, 1) := by decide +kernel
theorem dX12_next_22 : decode cX12_next 22 = .ok (.invokevirtual 58, 3) := by decide +kernel
theorem dX12_next_25 : decode cX12_next 25 = .ok (.iconst 1, 1) := by decide +kernel
theorem dX12_next_26 : decode cX12_next 26 = .ok (.if_icmp .ne 7, 3) := by decide +kernel
theorem dX12_next_29 : decode cX12_next 29 = .ok (.iconst 0, 1) := by decide +kernel
theorem dX12_next_30 : decode cX12_next 30 = .ok (.goto 9, 3) := by decide +kernel
theorem dX12_next_33 : decode cX12_next 33 = .ok (.aload_n 0, 1) := by decide +kernel
theorem dX12_next_34 : decode cX12_next 34 = .ok (.iload_n 1, 1) := by decide +kernel
theorem dX12_next_35 : decode cX12_next 35 = .ok (.iload_n 2, 1) := by decide +kernel
theorem dX12_next_36 : decode cX12_next 36 = .ok (.invokevirtual 284, 3) := by decide +kernel
theorem dX12_next_39 : decode cX12_next 39 = .ok (.ireturn, 1) := by decide +kernel
theorem dX12_passes_0 : decode cX12_passes 0 = .ok (.aload_n 0, 1) := by decide +kernel
theorem dX12_passes_1 : decode cX12_passes 1 = .ok (.iload_n 1, 1) := by decide +kernel
theorem dX12_passes_2 : decode cX12_passes 2 = .ok (.iconst 2, 1) := by decide +kernel
theorem dX12_passes_3 : decode cX12_passes 3 = .ok (.invokevirtual 58, 3) := by decide +kernel
theorem dX12_passes_6 : decode cX12_passes 6 = .ok (.ifCond .le 15, 3) := by decide +kernel
theorem dX12_passes_9 : decode cX12_passes 9 = .ok (.aload_n 0, 1) := by decide +kernel
theorem dX12_passes_10 : decode cX12_passes 10 = .ok (.iload_n 1, 1) := by decide +kernel
theorem dX12_passes_11 : decode cX12_passes 11 = .ok (.iconst 2, 1) := by decide +kernel
theorem dX12_passes_12 : decode cX12_passes 12 = .ok (.aload_n 0, 1) := by decide +kernel
theorem dX12_passes_13 : decode cX12_passes 13 = .ok (.iload_n 1, 1) := by decide +kernel
theorem dX12_passes_14 : decode cX12_passes 14 = .ok (.iload_n 2, 1) := by decide +kernel
theorem dX12_passes_15 : decode cX12_passes 15 = .ok (.invokevirtual 284, 3) := by decide +kernel
theorem dX12_passes_18 : decode cX12_passes 18 = .ok (.invokevirtual 141, 3) := by decide +kernel
theorem dX12_passes_21 : decode cX12_passes 21 = .ok (.aload_n 0, 1) := by decide +kernel
theorem dX12_passes_22 : decode cX12_passes 22 = .ok (.iload_n 1, 1) := by decide +kernel
theorem dX12_passes_23 : decode cX12_passes 23 = .ok (.iconst 3, 1) := by decide +kernel
theorem dX12_passes_24 : decode cX12_passes 24 = .ok (.aload_n 0, 1) := by decide +kernel
theorem dX12_passes_25 : decode cX12_passes 25 = .ok (.iload_n 1, 1) := by decide +kernel
theorem dX12_passes_26 : decode cX12_passes 26 = .ok (.iconst 3, 1) := by decide +kernel
theorem dX12_passes_27 : decode cX12_passes 27 = .ok (.invokevirtual 58, 3) := by decide +kernel
theorem dX12_passes_30 : decode cX12_passes 30 = .ok (.iconst 1, 1) := by decide +kernel
theorem dX12_passes_31 : decode cX12_passes 31 = .ok (.iadd, 1) := by decide +kernel
theorem dX12_passes_32 : decode cX12_passes 32 = .ok (.invokevirtual 141, 3) := by decide +kernel
theorem dX12_passes_35 : decode cX12_passes 35 = .ok (.aload_n 0, 1) := by decide +kernel
theorem dX12_passes_36 : decode cX12_passes 36 = .ok (.getfield 7, 3) := by decide +kernel
theorem dX12_passes_39 : decode cX12_passes 39 = .ok (.bipush 8, 2) := by decide +kernel
theorem dX12_passes_41 : decode cX12_passes 41 = .ok (.sipush 9999, 3) := by decide +kernel
theorem dX12_passes_44 : decode cX12_passes 44 = .ok (.aload_n 0, 1) := by decide +kernel
theorem dX12_passes_45 : decode cX12_passes 45 = .ok (.getfield 7, 3) := by decide +kernel
theorem dX12_passes_48 : decode cX12_passes 48 = .ok (.bipush 8, 2) := by decide +kernel
theorem dX12_passes_50 : decode cX12_passes 50 = .ok (.iaload, 1) := by decide +kernel
theorem dX12_passes_51 : decode cX12_passes 51 = .ok (.iconst 1, 1) := by decide +kernel
theorem dX12_passes_52 : decode cX12_passes 52 = .ok (.iadd, 1) := by decide +kernel
theorem dX12_passes_53 : decode cX12_passes 53 = .ok (.invokestatic 263, 3) := by decide +kernel
theorem dX12_passes_56 : decode cX12_passes 56 = .ok (.iastore, 1) := by decide +kernel
theorem dX12_passes_57 : decode cX12_passes 57 = .ok (.return_, 1) := by decide +kernel
theorem dX12_ahead_0 : decode cX12_ahead 0 = .ok (.aload_n 0, 1) := by decide +kernel
theorem dX12_ahead_1 : decode cX12_ahead 1 = .ok (.aload_n 0, 1) := by decide +kernel
theorem dX12_ahead_2 : decode cX12_ahead 2 = .ok (.iload_n 1, 1) := by decide +kernel
theorem dX12_ahead_3 : decode cX12_ahead 3 = .ok (.iload_n 2, 1) := by decide +kernel
theorem dX12_ahead_4 : decode cX12_ahead 4 = .ok (.bipush 40, 2) := by decide +kernel
theorem dX12_ahead_6 : decode cX12_ahead 6 = .ok (.iload_n 3, 1) := by decide +kernel
theorem dX12_ahead_7 : decode cX12_ahead 7 = .ok (.invokevirtual 317, 3) := by decide +kernel
theorem dX12_ahead_10 : decode cX12_ahead 10 = .ok (.putfield 51, 3) := by decide +kernel
theorem dX12_ahead_13 : decode cX12_ahead 13 = .ok (.aload_n 0, 1) := by decide +kernel
theorem dX12_ahead_14 : decode cX12_ahead 14 = .ok (.getfield 51, 3) := by decide +kernel
theorem dX12_ahead_17 : decode cX12_ahead 17 = .ok (.ifCond .gt 13, 3) := by decide +kernel
theorem dX12_ahead_20 : decode cX12_ahead 20 = .ok (.aload_n 0, 1) := by decide +kernel
theorem dX12_ahead_21 : decode cX12_ahead 21 = .ok (.iload_n 1, 1) := by decide +kernel
theorem dX12_ahead_22 : decode cX12_ahead 22 = .ok (.iconst 4, 1) := by decide +kernel
theorem dX12_ahead_23 : decode cX12_ahead 23 = .ok (.invokevirtual 58, 3) := by decide +kernel
theorem dX12_ahead_26 : decode cX12_ahead 26 = .ok (.iconst 1, 1) := by decide +kernel
theorem dX12_ahead_27 : decode cX12_ahead 27 = .ok (.if_icmp .ne 5, 3) := by decide +kernel
theorem dX12_ahead_30 : decode cX12_ahead 30 = .ok (.iconst 0, 1) := by decide +kernel
theorem dX12_ahead_31 : decode cX12_ahead 31 = .ok (.ireturn, 1) := by decide +kernel
theorem dX12_ahead_32 : decode cX12_ahead 32 = .ok (.aload_n 0, 1) := by decide +kernel
theorem dX12_ahead_33 : decode cX12_ahead 33 = .ok (.invokevirtual 188, 3) := by decide +kernel
theorem dX12_ahead_36 : decode cX12_ahead 36 = .ok (.iconst 0, 1) := by decide +kernel
theorem dX12_ahead_37 : decode cX12_ahead 37 = .ok (.istore 4, 2) := by decide +kernel
theorem dX12_ahead_39 : decode cX12_ahead 39 = .ok (.iload 4, 2) := by decide +kernel
theorem dX12_ahead_41 : decode cX12_ahead 41 = .ok (.iload_n 2, 1) := by decide +kernel
theorem dX12_ahead_42 : decode cX12_ahead 42 = .ok (.if_icmp .ge 15, 3) := by decide +kernel
theorem dX12_ahead_45 : decode cX12_ahead 45 = .ok (.aload_n 0, 1) := by decide +kernel
theorem dX12_ahead_46 : decode cX12_ahead 46 = .ok (.iload_n 1, 1) := by decide +kernel
theorem dX12_ahead_47 : decode cX12_ahead 47 = .ok (.iload_n 3, 1) := by decide +kernel
theorem dX12_ahead_48 : decode cX12_ahead 48 = .ok (.invokevirtual 321, 3) := by decide +kernel
theorem dX12_ahead_51 : decode cX12_ahead 51 = .ok (.iinc 4 1, 3) := by decide +kernel
theorem dX12_ahead_54 : decode cX12_ahead 54 = .ok (.goto (-15), 3) := by decide +kernel
theorem dX12_ahead_57 : decode cX12_ahead 57 = .ok (.aload_n 0, 1) := by decide +kernel
theorem dX12_ahead_58 : decode cX12_ahead 58 = .ok (.iload_n 1, 1) := by decide +kernel
theorem dX12_ahead_59 : decode cX12_ahead 59 = .ok (.iconst 2, 1) := by decide +kernel
theorem dX12_ahead_60 : decode cX12_ahead 60 = .ok (.invokevirtual 58, 3) := by decide +kernel
theorem dX12_ahead_63 : decode cX12_ahead 63 = .ok (.istore 4, 2) := by decide +kernel
theorem dX12_ahead_65 : decode cX12_ahead 65 = .ok (.aload_n 0, 1) := by decide +kernel
theorem dX12_ahead_66 : decode cX12_ahead 66 = .ok (.invokevirtual 198, 3) := by decide +kernel
theorem dX12_ahead_69 : decode cX12_ahead 69 = .ok (.iload 4, 2) := by decide +kernel
theorem dX12_ahead_71 : decode cX12_ahead 71 = .ok (.ireturn, 1) := by decide +kernel
theorem dX12_first_0 : decode cX12_first 0 = .ok (.aload_n 0, 1) := by decide +kernel
theorem dX12_first_1 : decode cX12_first 1 = .ok (.aload_n 0, 1) := by decide +kernel
theorem dX12_first_2 : decode cX12_first 2 = .ok (.iload_n 1, 1) := by decide +kernel
theorem dX12_first_3 : decode cX12_first 3 = .ok (.iconst 0, 1) := by decide +kernel
theorem dX12_first_4 : decode cX12_first 4 = .ok (.iconst 0, 1) := by decide +kernel
theorem dX12_first_5 : decode cX12_first 5 = .ok (.iload_n 2, 1) := by decide +kernel
theorem dX12_first_6 : decode cX12_first 6 = .ok (.invokevirtual 317, 3) := by decide +kernel
theorem dX12_first_9 : decode cX12_first 9 = .ok (.putfield 51, 3) := by decide +kernel
theorem dX12_first_12 : decode cX12_first 12 = .ok (.aload_n 0, 1) := by decide +kernel
theorem dX12_first_13 : decode cX12_first 13 = .ok (.getfield 51, 3) := by decide +kernel
theorem dX12_first_16 : decode cX12_first 16 = .ok (.ifCond .le 5, 3) := by decide +kernel
theorem dX12_first_19 : decode cX12_first 19 = .ok (.iconst 0, 1) := by decide +kernel
theorem dX12_first_20 : decode cX12_first 20 = .ok (.ireturn, 1) := by decide +kernel
theorem dX12_first_21 : decode cX12_first 21 = .ok (.aload_n 0, 1) := by decide +kernel
theorem dX12_first_22 : decode cX12_first 22 = .ok (.iload_n 1, 1) := by decide +kernel
theorem dX12_first_23 : decode cX12_first 23 = .ok (.iconst 4, 1) := by decide +kernel
theorem dX12_first_24 : decode cX12_first 24 = .ok (.invokevirtual 58, 3) := by decide +kernel
theorem dX12_first_27 : decode cX12_first 27 = .ok (.iconst 1, 1) := by decide +kernel
theorem dX12_first_28 : decode cX12_first 28 = .ok (.if_icmp .ne 5, 3) := by decide +kernel
theorem dX12_first_31 : decode cX12_first 31 = .ok (.iconst (-1), 1) := by decide +kernel
theorem dX12_first_32 : decode cX12_first 32 = .ok (.ireturn, 1) := by decide +kernel
theorem dX12_first_33 : decode cX12_first 33 = .ok (.aload_n 0, 1) := by decide +kernel
theorem dX12_first_34 : decode cX12_first 34 = .ok (.invokevirtual 188, 3) := by decide +kernel
theorem dX12_first_37 : decode cX12_first 37 = .ok (.iconst (-1), 1) := by decide +kernel
theorem dX12_first_38 : decode cX12_first 38 = .ok (.istore_n 3, 1) := by decide +kernel
theorem dX12_first_39 : decode cX12_first 39 = .ok (.iconst 1, 1) := by decide +kernel
theorem dX12_first_40 : decode cX12_first 40 = .ok (.istore 4, 2) := by decide +kernel
theorem dX12_first_42 : decode cX12_first 42 = .ok (.iload 4, 2) := by decide +kernel
theorem dX12_first_44 : decode cX12_first 44 = .ok (.bipush 40, 2) := by decide +kernel
theorem dX12_first_46 : decode cX12_first 46 = .ok (.if_icmp .gt 38, 3) := by decide +kernel
theorem dX12_first_49 : decode cX12_first 49 = .ok (.iload_n 3, 1) := by decide +kernel
theorem dX12_first_50 : decode cX12_first 50 = .ok (.iconst (-1), 1) := by decide +kernel
theorem dX12_first_51 : decode cX12_first 51 = .ok (.if_icmp .ne 33, 3) := by decide +kernel
theorem dX12_first_54 : decode cX12_first 54 = .ok (.aload_n 0, 1) := by decide +kernel
theorem dX12_first_55 : decode cX12_first 55 = .ok (.iload_n 1, 1) := by decide +kernel
theorem dX12_first_56 : decode cX12_first 56 = .ok (.iload_n 2, 1) := by decide +kernel
theorem dX12_first_57 : decode cX12_first 57 = .ok (.invokevirtual 321, 3) := by decide +kernel
theorem dX12_first_60 : decode cX12_first 60 = .ok (.aload_n 0, 1) := by decide +kernel
theorem dX12_first_61 : decode cX12_first 61 = .ok (.iload_n 1, 1) := by decide +kernel
theorem dX12_first_62 : decode cX12_first 62 = .ok (.iconst 2, 1) := by decide +kernel
theorem dX12_first_63 : decode cX12_first 63 = .ok (.invokevirtual 58, 3) := by decide +kernel
theorem dX12_first_66 : decode cX12_first 66 = .ok (.aload_n 0, 1) := by decide +kernel
theorem dX12_first_67 : decode cX12_first 67 = .ok (.getfield 7, 3) := by decide +kernel
theorem dX12_first_70 : decode cX12_first 70 = .ok (.iconst 5, 1) := by decide +kernel
theorem dX12_first_71 : decode cX12_first 71 = .ok (.iaload, 1) := by decide +kernel
theorem dX12_first_72 : decode cX12_first 72 = .ok (.if_icmp .ge 6, 3) := by decide +kernel
theorem dX12_first_75 : decode cX12_first 75 = .ok (.iload 4, 2) := by decide +kernel
theorem dX12_first_77 : decode cX12_first 77 = .ok (.istore_n 3, 1) := by decide +kernel
theorem dX12_first_78 : decode cX12_first 78 = .ok (.iinc 4 1, 3) := by decide +kernel
theorem dX12_first_81 : decode cX12_first 81 = .ok (.goto (-39), 3) := by decide +kernel
theorem dX12_first_84 : decode cX12_first 84 = .ok (.aload_n 0, 1) := by decide +kernel
theorem dX12_first_85 : decode cX12_first 85 = .ok (.invokevirtual 198, 3) := by decide +kernel
theorem dX12_first_88 : decode cX12_first 88 = .ok (.iload_n 3, 1) := by decide +kernel
theorem dX12_first_89 : decode cX12_first 89 = .ok (.ireturn, 1) := by decide +kernel
theorem dX12_odds_0 : decode cX12_odds 0 = .ok (.aload_n 0, 1) := by decide +kernel
theorem dX12_odds_1 : decode cX12_odds 1 = .ok (.aload_n 0, 1) := by decide +kernel
theorem dX12_odds_2 : decode cX12_odds 2 = .ok (.iload_n 1, 1) := by decide +kernel
theorem dX12_odds_3 : decode cX12_odds 3 = .ok (.invokevirtual 305, 3) := by decide +kernel
theorem dX12_odds_6 : decode cX12_odds 6 = .ok (.ifCond .ne 7, 3) := by decide +kernel
theorem dX12_odds_9 : decode cX12_odds 9 = .ok (.iconst 1, 1) := by decide +kernel
theorem dX12_odds_10 : decode cX12_odds 10 = .ok (.goto 4, 3) := by decide +kernel
theorem dX12_odds_13 : decode cX12_odds 13 = .ok (.iconst 0, 1) := by decide +kernel
theorem dX12_odds_14 : decode cX12_odds 14 = .ok (.putfield 51, 3) := by decide +kernel
theorem dX12_odds_17 : decode cX12_odds 17 = .ok (.iconst 0, 1) := by decide +kernel
theorem dX12_odds_18 : decode cX12_odds 18 = .ok (.istore_n 2, 1) := by decide +kernel
theorem dX12_odds_19 : decode cX12_odds 19 = .ok (.iconst 0, 1) := by decide +kernel
theorem dX12_odds_20 : decode cX12_odds 20 = .ok (.istore_n 3, 1) := by decide +kernel
theorem dX12_odds_21 : decode cX12_odds 21 = .ok (.iload_n 3, 1) := by decide +kernel
theorem dX12_odds_22 : decode cX12_odds 22 = .ok (.bipush 10, 2) := by decide +kernel
theorem dX12_odds_24 : decode cX12_odds 24 = .ok (.if_icmp .ge 48, 3) := by decide +kernel
theorem dX12_odds_27 : decode cX12_odds 27 = .ok (.aload_n 0, 1) := by decide +kernel
theorem dX12_odds_28 : decode cX12_odds 28 = .ok (.getfield 51, 3) := by decide +kernel
theorem dX12_odds_31 : decode cX12_odds 31 = .ok (.ifCond .ne 41, 3) := by decide +kernel
theorem dX12_odds_34 : decode cX12_odds 34 = .ok (.aload_n 0, 1) := by decide +kernel
theorem dX12_odds_35 : decode cX12_odds 35 = .ok (.iload_n 1, 1) := by decide +kernel
theorem dX12_odds_36 : decode cX12_odds 36 = .ok (.iconst 4, 1) := by decide +kernel
theorem dX12_odds_37 : decode cX12_odds 37 = .ok (.invokevirtual 58, 3) := by decide +kernel
theorem dX12_odds_40 : decode cX12_odds 40 = .ok (.ifCond .ne 32, 3) := by decide +kernel
theorem dX12_odds_43 : decode cX12_odds 43 = .ok (.iload_n 2, 1) := by decide +kernel
theorem dX12_odds_44 : decode cX12_odds 44 = .ok (.aload_n 0, 1) := by decide +kernel
theorem dX12_odds_45 : decode cX12_odds 45 = .ok (.iload_n 1, 1) := by decide +kernel
theorem dX12_odds_46 : decode cX12_odds 46 = .ok (.iload_n 3, 1) := by decide +kernel
theorem dX12_odds_47 : decode cX12_odds 47 = .ok (.invokevirtual 284, 3) := by decide +kernel
theorem dX12_odds_50 : decode cX12_odds 50 = .ok (.aload_n 0, 1) := by decide +kernel
theorem dX12_odds_51 : decode cX12_odds 51 = .ok (.getfield 7, 3) := by decide +kernel
theorem dX12_odds_54 : decode cX12_odds 54 = .ok (.iconst 5, 1) := by decide +kernel
theorem dX12_odds_55 : decode cX12_odds 55 = .ok (.iaload, 1) := by decide +kernel
theorem dX12_odds_56 : decode cX12_odds 56 = .ok (.if_icmp .ge 7, 3) := by decide +kernel
theorem dX12_odds_59 : decode cX12_odds 59 = .ok (.iconst 1, 1) := by decide +kernel
theorem dX12_odds_60 : decode cX12_odds 60 = .ok (.goto 4, 3) := by decide +kernel
theorem dX12_odds_63 : decode cX12_odds 63 = .ok (.iconst 0, 1) := by decide +kernel
theorem dX12_odds_64 : decode cX12_odds 64 = .ok (.iadd, 1) := by decide +kernel
theorem dX12_odds_65 : decode cX12_odds 65 = .ok (.istore_n 2, 1) := by decide +kernel
theorem dX12_odds_66 : decode cX12_odds 66 = .ok (.iinc 3 1, 3) := by decide +kernel
theorem dX12_odds_69 : decode cX12_odds 69 = .ok (.goto (-48), 3) := by decide +kernel
theorem dX12_odds_72 : decode cX12_odds 72 = .ok (.iload_n 2, 1) := by decide +kernel
theorem dX12_odds_73 : decode cX12_odds 73 = .ok (.ireturn, 1) := by decide +kernel
theorem dX12_fallsNow_0 : decode cX12_fallsNow 0 = .ok (.iconst 0, 1) := by decide +kernel
theorem dX12_fallsNow_1 : decode cX12_fallsNow 1 = .ok (.istore_n 1, 1) := by decide +kernel
theorem dX12_fallsNow_2 : decode cX12_fallsNow 2 = .ok (.iload_n 1, 1) := by decide +kernel
theorem dX12_fallsNow_3 : decode cX12_fallsNow 3 = .ok (.aload_n 0, 1) := by decide +kernel
theorem dX12_fallsNow_4 : decode cX12_fallsNow 4 = .ok (.getfield 7, 3) := by decide +kernel
theorem dX12_fallsNow_7 : decode cX12_fallsNow 7 = .ok (.iconst 4, 1) := by decide +kernel
theorem dX12_fallsNow_8 : decode cX12_fallsNow 8 = .ok (.iaload, 1) := by decide +kernel
theorem dX12_fallsNow_9 : decode cX12_fallsNow 9 = .ok (.if_icmp .ge 15, 3) := by decide +kernel
theorem dX12_fallsNow_12 : decode cX12_fallsNow 12 = .ok (.aload_n 0, 1) := by decide +kernel
theorem dX12_fallsNow_13 : decode cX12_fallsNow 13 = .ok (.iload_n 1, 1) := by decide +kernel
theorem dX12_fallsNow_14 : decode cX12_fallsNow 14 = .ok (.invokevirtual 287, 3) := by decide +kernel
theorem dX12_fallsNow_17 : decode cX12_fallsNow 17 = .ok (.istore_n 2, 1) := by decide +kernel
theorem dX12_fallsNow_18 : decode cX12_fallsNow 18 = .ok (.iinc 1 1, 3) := by decide +kernel
theorem dX12_fallsNow_21 : decode cX12_fallsNow 21 = .ok (.goto (-19), 3) := by decide +kernel
theorem dX12_fallsNow_24 : decode cX12_fallsNow 24 = .ok (.iconst 0, 1) := by decide +kernel
theorem dX12_fallsNow_25 : decode cX12_fallsNow 25 = .ok (.istore_n 1, 1) := by decide +kernel
theorem dX12_fallsNow_26 : decode cX12_fallsNow 26 = .ok (.iconst 0, 1) := by decide +kernel
theorem dX12_fallsNow_27 : decode cX12_fallsNow 27 = .ok (.istore_n 2, 1) := by decide +kernel
theorem dX12_fallsNow_28 : decode cX12_fallsNow 28 = .ok (.iload_n 2, 1) := by decide +kernel
theorem dX12_fallsNow_29 : decode cX12_fallsNow 29 = .ok (.aload_n 0, 1) := by decide +kernel
theorem dX12_fallsNow_30 : decode cX12_fallsNow 30 = .ok (.getfield 7, 3) := by decide +kernel
theorem dX12_fallsNow_33 : decode cX12_fallsNow 33 = .ok (.iconst 3, 1) := by decide +kernel
theorem dX12_fallsNow_34 : decode cX12_fallsNow 34 = .ok (.iaload, 1) := by decide +kernel
theorem dX12_fallsNow_35 : decode cX12_fallsNow 35 = .ok (.if_icmp .ge 45, 3) := by decide +kernel
theorem dX12_fallsNow_38 : decode cX12_fallsNow 38 = .ok (.iload_n 1, 1) := by decide +kernel
theorem dX12_fallsNow_39 : decode cX12_fallsNow 39 = .ok (.aload_n 0, 1) := by decide +kernel
theorem dX12_fallsNow_40 : decode cX12_fallsNow 40 = .ok (.iload_n 2, 1) := by decide +kernel
theorem dX12_fallsNow_41 : decode cX12_fallsNow 41 = .ok (.iconst 3, 1) := by decide +kernel
theorem dX12_fallsNow_42 : decode cX12_fallsNow 42 = .ok (.invokevirtual 62, 3) := by decide +kernel
theorem dX12_fallsNow_45 : decode cX12_fallsNow 45 = .ok (.iconst 1, 1) := by decide +kernel
theorem dX12_fallsNow_46 : decode cX12_fallsNow 46 = .ok (.if_icmp .ne 25, 3) := by decide +kernel
theorem dX12_fallsNow_49 : decode cX12_fallsNow 49 = .ok (.aload_n 0, 1) := by decide +kernel
theorem dX12_fallsNow_50 : decode cX12_fallsNow 50 = .ok (.getfield 16, 3) := by decide +kernel
theorem dX12_fallsNow_53 : decode cX12_fallsNow 53 = .ok (.bipush 14, 2) := by decide +kernel
theorem dX12_fallsNow_55 : decode cX12_fallsNow 55 = .ok (.iconst 4, 1) := by decide +kernel
theorem dX12_fallsNow_56 : decode cX12_fallsNow 56 = .ok (.iload_n 2, 1) := by decide +kernel
theorem dX12_fallsNow_57 : decode cX12_fallsNow 57 = .ok (.imul, 1) := by decide +kernel
theorem dX12_fallsNow_58 : decode cX12_fallsNow 58 = .ok (.iadd, 1) := by decide +kernel
theorem dX12_fallsNow_59 : decode cX12_fallsNow 59 = .ok (.iconst 3, 1) := by decide +kernel
theorem dX12_fallsNow_60 : decode cX12_fallsNow 60 = .ok (.iadd, 1) := by decide +kernel
theorem dX12_fallsNow_61 : decode cX12_fallsNow 61 = .ok (.iaload, 1) := by decide +kernel
theorem dX12_fallsNow_62 : decode cX12_fallsNow 62 = .ok (.ifCond .ne 9, 3) := by decide +kernel
theorem dX12_fallsNow_65 : decode cX12_fallsNow 65 = .ok (.iconst 1, 1) := by decide +kernel
theorem dX12_fallsNow_66 : decode cX12_fallsNow 66 = .ok (.iload_n 2, 1) := by decide +kernel
theorem dX12_fallsNow_67 : decode cX12_fallsNow 67 = .ok (.ishl, 1) := by decide +kernel
theorem dX12_fallsNow_68 : decode cX12_fallsNow 68 = .ok (.goto 4, 3) := by decide +kernel
theorem dX12_fallsNow_71 : decode cX12_fallsNow 71 = .ok (.iconst 0, 1) := by decide +kernel
theorem dX12_fallsNow_72 : decode cX12_fallsNow 72 = .ok (.ior, 1) := by decide +kernel
theorem dX12_fallsNow_73 : decode cX12_fallsNow 73 = .ok (.istore_n 1, 1) := by decide +kernel
theorem dX12_fallsNow_74 : decode cX12_fallsNow 74 = .ok (.iinc 2 1, 3) := by decide +kernel
theorem dX12_fallsNow_77 : decode cX12_fallsNow 77 = .ok (.goto (-49), 3) := by decide +kernel
theorem dX12_fallsNow_80 : decode cX12_fallsNow 80 = .ok (.iload_n 1, 1) := by decide +kernel
theorem dX12_fallsNow_81 : decode cX12_fallsNow 81 = .ok (.ireturn, 1) := by decide +kernel
theorem dX12_falls_0 : decode cX12_falls 0 = .ok (.aload_n 0, 1) := by decide +kernel
theorem dX12_falls_1 : decode cX12_falls 1 = .ok (.iconst 0, 1) := by decide +kernel
theorem dX12_falls_2 : decode cX12_falls 2 = .ok (.putfield 51, 3) := by decide +kernel
theorem dX12_falls_5 : decode cX12_falls 5 = .ok (.aload_n 0, 1) := by decide +kernel
theorem dX12_falls_6 : decode cX12_falls 6 = .ok (.invokevirtual 188, 3) := by decide +kernel
theorem dX12_falls_9 : decode cX12_falls 9 = .ok (.aload_n 0, 1) := by decide +kernel
theorem dX12_falls_10 : decode cX12_falls 10 = .ok (.invokevirtual 324, 3) := by decide +kernel
theorem dX12_falls_13 : decode cX12_falls 13 = .ok (.istore_n 1, 1) := by decide +kernel
theorem dX12_falls_14 : decode cX12_falls 14 = .ok (.aload_n 0, 1) := by decide +kernel
theorem dX12_falls_15 : decode cX12_falls 15 = .ok (.invokevirtual 198, 3) := by decide +kernel
theorem dX12_falls_18 : decode cX12_falls 18 = .ok (.iload_n 1, 1) := by decide +kernel
theorem dX12_falls_19 : decode cX12_falls 19 = .ok (.ireturn, 1) := by decide +kernel
theorem dX12_loses_0 : decode cX12_loses 0 = .ok (.aload_n 0, 1) := by decide +kernel
theorem dX12_loses_1 : decode cX12_loses 1 = .ok (.aload_n 0, 1) := by decide +kernel
theorem dX12_loses_2 : decode cX12_loses 2 = .ok (.iload_n 1, 1) := by decide +kernel
theorem dX12_loses_3 : decode cX12_loses 3 = .ok (.invokevirtual 293, 3) := by decide +kernel
theorem dX12_loses_6 : decode cX12_loses 6 = .ok (.ifCond .ne 7, 3) := by decide +kernel
theorem dX12_loses_9 : decode cX12_loses 9 = .ok (.iconst 1, 1) := by decide +kernel
theorem dX12_loses_10 : decode cX12_loses 10 = .ok (.goto 4, 3) := by decide +kernel
theorem dX12_loses_13 : decode cX12_loses 13 = .ok (.iconst 0, 1) := by decide +kernel
theorem dX12_loses_14 : decode cX12_loses 14 = .ok (.putfield 51, 3) := by decide +kernel
theorem dX12_loses_17 : decode cX12_loses 17 = .ok (.aload_n 0, 1) := by decide +kernel
theorem dX12_loses_18 : decode cX12_loses 18 = .ok (.getfield 51, 3) := by decide +kernel
theorem dX12_loses_21 : decode cX12_loses 21 = .ok (.ifCond .le 5, 3) := by decide +kernel
theorem dX12_loses_24 : decode cX12_loses 24 = .ok (.iconst 0, 1) := by decide +kernel
theorem dX12_loses_25 : decode cX12_loses 25 = .ok (.ireturn, 1) := by decide +kernel
theorem dX12_loses_26 : decode cX12_loses 26 = .ok (.aload_n 0, 1) := by decide +kernel
theorem dX12_loses_27 : decode cX12_loses 27 = .ok (.invokevirtual 188, 3) := by decide +kernel
theorem dX12_loses_30 : decode cX12_loses 30 = .ok (.aload_n 0, 1) := by decide +kernel
theorem dX12_loses_31 : decode cX12_loses 31 = .ok (.invokevirtual 324, 3) := by decide +kernel
theorem dX12_loses_34 : decode cX12_loses 34 = .ok (.istore_n 2, 1) := by decide +kernel
theorem dX12_loses_35 : decode cX12_loses 35 = .ok (.iconst 0, 1) := by decide +kernel
theorem dX12_loses_36 : decode cX12_loses 36 = .ok (.aload_n 0, 1) := by decide +kernel
theorem dX12_loses_37 : decode cX12_loses 37 = .ok (.getfield 16, 3) := by decide +kernel
theorem dX12_loses_40 : decode cX12_loses 40 = .ok (.bipush 14, 2) := by decide +kernel
theorem dX12_loses_42 : decode cX12_loses 42 = .ok (.iconst 4, 1) := by decide +kernel
theorem dX12_loses_43 : decode cX12_loses 43 = .ok (.iload_n 1, 1) := by decide +kernel
theorem dX12_loses_44 : decode cX12_loses 44 = .ok (.imul, 1) := by decide +kernel
theorem dX12_loses_45 : decode cX12_loses 45 = .ok (.iadd, 1) := by decide +kernel
theorem dX12_loses_46 : decode cX12_loses 46 = .ok (.iconst 0, 1) := by decide +kernel
theorem dX12_loses_47 : decode cX12_loses 47 = .ok (.iadd, 1) := by decide +kernel
theorem dX12_loses_48 : decode cX12_loses 48 = .ok (.iaload, 1) := by decide +kernel
theorem dX12_loses_49 : decode cX12_loses 49 = .ok (.aload_n 0, 1) := by decide +kernel
theorem dX12_loses_50 : decode cX12_loses 50 = .ok (.iload_n 1, 1) := by decide +kernel
theorem dX12_loses_51 : decode cX12_loses 51 = .ok (.iconst 0, 1) := by decide +kernel
theorem dX12_loses_52 : decode cX12_loses 52 = .ok (.invokevirtual 62, 3) := by decide +kernel
theorem dX12_loses_55 : decode cX12_loses 55 = .ok (.isub, 1) := by decide +kernel
theorem dX12_loses_56 : decode cX12_loses 56 = .ok (.invokestatic 266, 3) := by decide +kernel
theorem dX12_loses_59 : decode cX12_loses 59 = .ok (.istore_n 3, 1) := by decide +kernel
theorem dX12_loses_60 : decode cX12_loses 60 = .ok (.aload_n 0, 1) := by decide +kernel
theorem dX12_loses_61 : decode cX12_loses 61 = .ok (.invokevirtual 198, 3) := by decide +kernel
theorem dX12_loses_64 : decode cX12_loses 64 = .ok (.iload_n 3, 1) := by decide +kernel
theorem dX12_loses_65 : decode cX12_loses 65 = .ok (.ireturn, 1) := by decide +kernel
theorem dX12_holds_0 : decode cX12_holds 0 = .ok (.aload_n 0, 1) := by decide +kernel
theorem dX12_holds_1 : decode cX12_holds 1 = .ok (.aload_n 0, 1) := by decide +kernel
theorem dX12_holds_2 : decode cX12_holds 2 = .ok (.iload_n 1, 1) := by decide +kernel
theorem dX12_holds_3 : decode cX12_holds 3 = .ok (.invokevirtual 293, 3) := by decide +kernel
theorem dX12_holds_6 : decode cX12_holds 6 = .ok (.ifCond .ne 7, 3) := by decide +kernel
theorem dX12_holds_9 : decode cX12_holds 9 = .ok (.iconst 1, 1) := by decide +kernel
theorem dX12_holds_10 : decode cX12_holds 10 = .ok (.goto 4, 3) := by decide +kernel
theorem dX12_holds_13 : decode cX12_holds 13 = .ok (.iconst 0, 1) := by decide +kernel
theorem dX12_holds_14 : decode cX12_holds 14 = .ok (.putfield 51, 3) := by decide +kernel
theorem dX12_holds_17 : decode cX12_holds 17 = .ok (.aload_n 0, 1) := by decide +kernel
theorem dX12_holds_18 : decode cX12_holds 18 = .ok (.getfield 51, 3) := by decide +kernel
theorem dX12_holds_21 : decode cX12_holds 21 = .ok (.ifCond .le 5, 3) := by decide +kernel
theorem dX12_holds_24 : decode cX12_holds 24 = .ok (.iconst 0, 1) := by decide +kernel
theorem dX12_holds_25 : decode cX12_holds 25 = .ok (.ireturn, 1) := by decide +kernel
theorem dX12_holds_26 : decode cX12_holds 26 = .ok (.aload_n 0, 1) := by decide +kernel
theorem dX12_holds_27 : decode cX12_holds 27 = .ok (.invokevirtual 188, 3) := by decide +kernel
theorem dX12_holds_30 : decode cX12_holds 30 = .ok (.iconst (-1), 1) := by decide +kernel
theorem dX12_holds_31 : decode cX12_holds 31 = .ok (.istore_n 2, 1) := by decide +kernel
theorem dX12_holds_32 : decode cX12_holds 32 = .ok (.iconst 0, 1) := by decide +kernel
theorem dX12_holds_33 : decode cX12_holds 33 = .ok (.istore_n 3, 1) := by decide +kernel
theorem dX12_holds_34 : decode cX12_holds 34 = .ok (.iload_n 3, 1) := by decide +kernel
theorem dX12_holds_35 : decode cX12_holds 35 = .ok (.sipush 999, 3) := by decide +kernel
theorem dX12_holds_38 : decode cX12_holds 38 = .ok (.if_icmp .gt 38, 3) := by decide +kernel
theorem dX12_holds_41 : decode cX12_holds 41 = .ok (.iload_n 2, 1) := by decide +kernel
theorem dX12_holds_42 : decode cX12_holds 42 = .ok (.iconst (-1), 1) := by decide +kernel
theorem dX12_holds_43 : decode cX12_holds 43 = .ok (.if_icmp .ne 33, 3) := by decide +kernel
theorem dX12_holds_46 : decode cX12_holds 46 = .ok (.aload_n 0, 1) := by decide +kernel
theorem dX12_holds_47 : decode cX12_holds 47 = .ok (.iload_n 1, 1) := by decide +kernel
theorem dX12_holds_48 : decode cX12_holds 48 = .ok (.iconst 0, 1) := by decide +kernel
theorem dX12_holds_49 : decode cX12_holds 49 = .ok (.iload_n 3, 1) := by decide +kernel
theorem dX12_holds_50 : decode cX12_holds 50 = .ok (.invokevirtual 144, 3) := by decide +kernel
theorem dX12_holds_53 : decode cX12_holds 53 = .ok (.aload_n 0, 1) := by decide +kernel
theorem dX12_holds_54 : decode cX12_holds 54 = .ok (.invokevirtual 324, 3) := by decide +kernel
theorem dX12_holds_57 : decode cX12_holds 57 = .ok (.iload_n 1, 1) := by decide +kernel
theorem dX12_holds_58 : decode cX12_holds 58 = .ok (.invokestatic 65, 3) := by decide +kernel
theorem dX12_holds_61 : decode cX12_holds 61 = .ok (.ifCond .ne 5, 3) := by decide +kernel
theorem dX12_holds_64 : decode cX12_holds 64 = .ok (.iload_n 3, 1) := by decide +kernel
theorem dX12_holds_65 : decode cX12_holds 65 = .ok (.istore_n 2, 1) := by decide +kernel
theorem dX12_holds_66 : decode cX12_holds 66 = .ok (.aload_n 0, 1) := by decide +kernel
theorem dX12_holds_67 : decode cX12_holds 67 = .ok (.invokevirtual 198, 3) := by decide +kernel
theorem dX12_holds_70 : decode cX12_holds 70 = .ok (.iinc 3 1, 3) := by decide +kernel
theorem dX12_holds_73 : decode cX12_holds 73 = .ok (.goto (-39), 3) := by decide +kernel
theorem dX12_holds_76 : decode cX12_holds 76 = .ok (.iload_n 2, 1) := by decide +kernel
theorem dX12_holds_77 : decode cX12_holds 77 = .ok (.ireturn, 1) := by decide +kernel
theorem dX12_ringOf_0 : decode cX12_ringOf 0 = .ok (.aload_n 0, 1) := by decide +kernel
theorem dX12_ringOf_1 : decode cX12_ringOf 1 = .ok (.iload_n 1, 1) := by decide +kernel
theorem dX12_ringOf_2 : decode cX12_ringOf 2 = .ok (.iconst 2, 1) := by decide +kernel
theorem dX12_ringOf_3 : decode cX12_ringOf 3 = .ok (.invokevirtual 62, 3) := by decide +kernel
theorem dX12_ringOf_6 : decode cX12_ringOf 6 = .ok (.istore_n 2, 1) := by decide +kernel
theorem dX12_ringOf_7 : decode cX12_ringOf 7 = .ok (.iconst 1, 1) := by decide +kernel
theorem dX12_ringOf_8 : decode cX12_ringOf 8 = .ok (.istore_n 3, 1) := by decide +kernel
theorem dX12_ringOf_9 : decode cX12_ringOf 9 = .ok (.iload_n 3, 1) := by decide +kernel
theorem dX12_ringOf_10 : decode cX12_ringOf 10 = .ok (.bipush 8, 2) := by decide +kernel
theorem dX12_ringOf_12 : decode cX12_ringOf 12 = .ok (.if_icmp .gt 28, 3) := by decide +kernel
theorem dX12_ringOf_15 : decode cX12_ringOf 15 = .ok (.iload_n 2, 1) := by decide +kernel
theorem dX12_ringOf_16 : decode cX12_ringOf 16 = .ok (.iconst (-1), 1) := by decide +kernel
theorem dX12_ringOf_17 : decode cX12_ringOf 17 = .ok (.if_icmp .eq 23, 3) := by decide +kernel
theorem dX12_ringOf_20 : decode cX12_ringOf 20 = .ok (.iload_n 2, 1) := by decide +kernel
theorem dX12_ringOf_21 : decode cX12_ringOf 21 = .ok (.iload_n 1, 1) := by decide +kernel
theorem dX12_ringOf_22 : decode cX12_ringOf 22 = .ok (.if_icmp .ne 5, 3) := by decide +kernel
theorem dX12_ringOf_25 : decode cX12_ringOf 25 = .ok (.iload_n 3, 1) := by decide +kernel
theorem dX12_ringOf_26 : decode cX12_ringOf 26 = .ok (.ireturn, 1) := by decide +kernel
theorem dX12_ringOf_27 : decode cX12_ringOf 27 = .ok (.aload_n 0, 1) := by decide +kernel
theorem dX12_ringOf_28 : decode cX12_ringOf 28 = .ok (.iload_n 2, 1) := by decide +kernel
theorem dX12_ringOf_29 : decode cX12_ringOf 29 = .ok (.iconst 2, 1) := by decide +kernel
theorem dX12_ringOf_30 : decode cX12_ringOf 30 = .ok (.invokevirtual 62, 3) := by decide +kernel
theorem dX12_ringOf_33 : decode cX12_ringOf 33 = .ok (.istore_n 2, 1) := by decide +kernel
theorem dX12_ringOf_34 : decode cX12_ringOf 34 = .ok (.iinc 3 1, 3) := by decide +kernel
theorem dX12_ringOf_37 : decode cX12_ringOf 37 = .ok (.goto (-28), 3) := by decide +kernel
theorem dX12_ringOf_40 : decode cX12_ringOf 40 = .ok (.iconst (-1), 1) := by decide +kernel
theorem dX12_ringOf_41 : decode cX12_ringOf 41 = .ok (.ireturn, 1) := by decide +kernel
theorem dX12_ring_0 : decode cX12_ring 0 = .ok (.aload_n 0, 1) := by decide +kernel
theorem dX12_ring_1 : decode cX12_ring 1 = .ok (.aload_n 0, 1) := by decide +kernel
theorem dX12_ring_2 : decode cX12_ring 2 = .ok (.iload_n 1, 1) := by decide +kernel
theorem dX12_ring_3 : decode cX12_ring 3 = .ok (.invokevirtual 293, 3) := by decide +kernel
theorem dX12_ring_6 : decode cX12_ring 6 = .ok (.ifCond .ne 7, 3) := by decide +kernel
theorem dX12_ring_9 : decode cX12_ring 9 = .ok (.iconst 1, 1) := by decide +kernel
theorem dX12_ring_10 : decode cX12_ring 10 = .ok (.goto 4, 3) := by decide +kernel
theorem dX12_ring_13 : decode cX12_ring 13 = .ok (.iconst 0, 1) := by decide +kernel
theorem dX12_ring_14 : decode cX12_ring 14 = .ok (.putfield 51, 3) := by decide +kernel
theorem dX12_ring_17 : decode cX12_ring 17 = .ok (.aload_n 0, 1) := by decide +kernel
theorem dX12_ring_18 : decode cX12_ring 18 = .ok (.getfield 51, 3) := by decide +kernel
theorem dX12_ring_21 : decode cX12_ring 21 = .ok (.ifCond .le 7, 3) := by decide +kernel
theorem dX12_ring_24 : decode cX12_ring 24 = .ok (.iconst 0, 1) := by decide +kernel
theorem dX12_ring_25 : decode cX12_ring 25 = .ok (.goto 8, 3) := by decide +kernel
theorem dX12_ring_28 : decode cX12_ring 28 = .ok (.aload_n 0, 1) := by decide +kernel
theorem dX12_ring_29 : decode cX12_ring 29 = .ok (.iload_n 1, 1) := by decide +kernel
theorem dX12_ring_30 : decode cX12_ring 30 = .ok (.invokevirtual 327, 3) := by decide +kernel
theorem dX12_ring_33 : decode cX12_ring 33 = .ok (.ireturn, 1) := by decide +kernel
theorem dX12_leads_0 : decode cX12_leads 0 = .ok (.aload_n 0, 1) := by decide +kernel
theorem dX12_leads_1 : decode cX12_leads 1 = .ok (.iload_n 1, 1) := by decide +kernel
theorem dX12_leads_2 : decode cX12_leads 2 = .ok (.iconst 2, 1) := by decide +kernel
theorem dX12_leads_3 : decode cX12_leads 3 = .ok (.invokevirtual 62, 3) := by decide +kernel
theorem dX12_leads_6 : decode cX12_leads 6 = .ok (.istore_n 3, 1) := by decide +kernel
theorem dX12_leads_7 : decode cX12_leads 7 = .ok (.iconst 1, 1) := by decide +kernel
theorem dX12_leads_8 : decode cX12_leads 8 = .ok (.istore 4, 2) := by decide +kernel
theorem dX12_leads_10 : decode cX12_leads 10 = .ok (.iload 4, 2) := by decide +kernel
theorem dX12_leads_12 : decode cX12_leads 12 = .ok (.bipush 8, 2) := by decide +kernel
theorem dX12_leads_14 : decode cX12_leads 14 = .ok (.if_icmp .gt 28, 3) := by decide +kernel
theorem dX12_leads_17 : decode cX12_leads 17 = .ok (.iload_n 3, 1) := by decide +kernel
theorem dX12_leads_18 : decode cX12_leads 18 = .ok (.iconst (-1), 1) := by decide +kernel
theorem dX12_leads_19 : decode cX12_leads 19 = .ok (.if_icmp .eq 23, 3) := by decide +kernel
theorem dX12_leads_22 : decode cX12_leads 22 = .ok (.iload_n 3, 1) := by decide +kernel
theorem dX12_leads_23 : decode cX12_leads 23 = .ok (.iload_n 2, 1) := by decide +kernel
theorem dX12_leads_24 : decode cX12_leads 24 = .ok (.if_icmp .ne 5, 3) := by decide +kernel
theorem dX12_leads_27 : decode cX12_leads 27 = .ok (.iconst 1, 1) := by decide +kernel
theorem dX12_leads_28 : decode cX12_leads 28 = .ok (.ireturn, 1) := by decide +kernel
theorem dX12_leads_29 : decode cX12_leads 29 = .ok (.aload_n 0, 1) := by decide +kernel
theorem dX12_leads_30 : decode cX12_leads 30 = .ok (.iload_n 3, 1) := by decide +kernel
theorem dX12_leads_31 : decode cX12_leads 31 = .ok (.iconst 2, 1) := by decide +kernel
theorem dX12_leads_32 : decode cX12_leads 32 = .ok (.invokevirtual 62, 3) := by decide +kernel
theorem dX12_leads_35 : decode cX12_leads 35 = .ok (.istore_n 3, 1) := by decide +kernel
theorem dX12_leads_36 : decode cX12_leads 36 = .ok (.iinc 4 1, 3) := by decide +kernel
theorem dX12_leads_39 : decode cX12_leads 39 = .ok (.goto (-29), 3) := by decide +kernel
theorem dX12_leads_42 : decode cX12_leads 42 = .ok (.iconst 0, 1) := by decide +kernel
theorem dX12_leads_43 : decode cX12_leads 43 = .ok (.ireturn, 1) := by decide +kernel
theorem dX12_rings_0 : decode cX12_rings 0 = .ok (.aload_n 0, 1) := by decide +kernel
theorem dX12_rings_1 : decode cX12_rings 1 = .ok (.iconst 0, 1) := by decide +kernel
theorem dX12_rings_2 : decode cX12_rings 2 = .ok (.putfield 51, 3) := by decide +kernel
theorem dX12_rings_5 : decode cX12_rings 5 = .ok (.iconst 0, 1) := by decide +kernel
theorem dX12_rings_6 : decode cX12_rings 6 = .ok (.istore_n 1, 1) := by decide +kernel
theorem dX12_rings_7 : decode cX12_rings 7 = .ok (.iconst 0, 1) := by decide +kernel
theorem dX12_rings_8 : decode cX12_rings 8 = .ok (.istore_n 2, 1) := by decide +kernel
theorem dX12_rings_9 : decode cX12_rings 9 = .ok (.iload_n 2, 1) := by decide +kernel
theorem dX12_rings_10 : decode cX12_rings 10 = .ok (.aload_n 0, 1) := by decide +kernel
theorem dX12_rings_11 : decode cX12_rings 11 = .ok (.getfield 7, 3) := by decide +kernel
theorem dX12_rings_14 : decode cX12_rings 14 = .ok (.iconst 3, 1) := by decide +kernel
theorem dX12_rings_15 : decode cX12_rings 15 = .ok (.iaload, 1) := by decide +kernel
theorem dX12_rings_16 : decode cX12_rings 16 = .ok (.if_icmp .ge 71, 3) := by decide +kernel
theorem dX12_rings_19 : decode cX12_rings 19 = .ok (.aload_n 0, 1) := by decide +kernel
theorem dX12_rings_20 : decode cX12_rings 20 = .ok (.iload_n 2, 1) := by decide +kernel
theorem dX12_rings_21 : decode cX12_rings 21 = .ok (.invokevirtual 327, 3) := by decide +kernel
theorem dX12_rings_24 : decode cX12_rings 24 = .ok (.iconst (-1), 1) := by decide +kernel
theorem dX12_rings_25 : decode cX12_rings 25 = .ok (.if_icmp .eq 7, 3) := by decide +kernel
theorem dX12_rings_28 : decode cX12_rings 28 = .ok (.iconst 1, 1) := by decide +kernel
theorem dX12_rings_29 : decode cX12_rings 29 = .ok (.goto 4, 3) := by decide +kernel
theorem dX12_rings_32 : decode cX12_rings 32 = .ok (.iconst 0, 1) := by decide +kernel
theorem dX12_rings_33 : decode cX12_rings 33 = .ok (.istore_n 3, 1) := by decide +kernel
theorem dX12_rings_34 : decode cX12_rings 34 = .ok (.iconst 0, 1) := by decide +kernel
theorem dX12_rings_35 : decode cX12_rings 35 = .ok (.istore 4, 2) := by decide +kernel
theorem dX12_rings_37 : decode cX12_rings 37 = .ok (.iload 4, 2) := by decide +kernel
theorem dX12_rings_39 : decode cX12_rings 39 = .ok (.iload_n 2, 1) := by decide +kernel
theorem dX12_rings_40 : decode cX12_rings 40 = .ok (.if_icmp .ge 29, 3) := by decide +kernel
theorem dX12_rings_43 : decode cX12_rings 43 = .ok (.iload_n 3, 1) := by decide +kernel
theorem dX12_rings_44 : decode cX12_rings 44 = .ok (.ifCond .eq 25, 3) := by decide +kernel
theorem dX12_rings_47 : decode cX12_rings 47 = .ok (.aload_n 0, 1) := by decide +kernel
theorem dX12_rings_48 : decode cX12_rings 48 = .ok (.iload_n 2, 1) := by decide +kernel
theorem dX12_rings_49 : decode cX12_rings 49 = .ok (.iload 4, 2) := by decide +kernel
theorem dX12_rings_51 : decode cX12_rings 51 = .ok (.invokevirtual 330, 3) := by decide +kernel
theorem dX12_rings_54 : decode cX12_rings 54 = .ok (.ifCond .ne 7, 3) := by decide +kernel
theorem dX12_rings_57 : decode cX12_rings 57 = .ok (.iconst 1, 1) := by decide +kernel
theorem dX12_rings_58 : decode cX12_rings 58 = .ok (.goto 4, 3) := by decide +kernel
theorem dX12_rings_61 : decode cX12_rings 61 = .ok (.iconst 0, 1) := by decide +kernel
theorem dX12_rings_62 : decode cX12_rings 62 = .ok (.istore_n 3, 1) := by decide +kernel
theorem dX12_rings_63 : decode cX12_rings 63 = .ok (.iinc 4 1, 3) := by decide +kernel
theorem dX12_rings_66 : decode cX12_rings 66 = .ok (.goto (-29), 3) := by decide +kernel
theorem dX12_rings_69 : decode cX12_rings 69 = .ok (.iload_n 1, 1) := by decide +kernel
theorem dX12_rings_70 : decode cX12_rings 70 = .ok (.iload_n 3, 1) := by decide +kernel
theorem dX12_rings_71 : decode cX12_rings 71 = .ok (.ifCond .eq 7, 3) := by decide +kernel
theorem dX12_rings_74 : decode cX12_rings 74 = .ok (.iconst 1, 1) := by decide +kernel
theorem dX12_rings_75 : decode cX12_rings 75 = .ok (.goto 4, 3) := by decide +kernel
theorem dX12_rings_78 : decode cX12_rings 78 = .ok (.iconst 0, 1) := by decide +kernel
theorem dX12_rings_79 : decode cX12_rings 79 = .ok (.iadd, 1) := by decide +kernel
theorem dX12_rings_80 : decode cX12_rings 80 = .ok (.istore_n 1, 1) := by decide +kernel
theorem dX12_rings_81 : decode cX12_rings 81 = .ok (.iinc 2 1, 3) := by decide +kernel
theorem dX12_rings_84 : decode cX12_rings 84 = .ok (.goto (-75), 3) := by decide +kernel
theorem dX12_rings_87 : decode cX12_rings 87 = .ok (.iload_n 1, 1) := by decide +kernel
theorem dX12_rings_88 : decode cX12_rings 88 = .ok (.ireturn, 1) := by decide +kernel
theorem dX12_leans_0 : decode cX12_leans 0 = .ok (.aload_n 0, 1) := by decide +kernel
theorem dX12_leans_1 : decode cX12_leans 1 = .ok (.aload_n 0, 1) := by decide +kernel
theorem dX12_leans_2 : decode cX12_leans 2 = .ok (.iload_n 1, 1) := by decide +kernel
theorem dX12_leans_3 : decode cX12_leans 3 = .ok (.invokevirtual 293, 3) := by decide +kernel
theorem dX12_leans_6 : decode cX12_leans 6 = .ok (.ifCond .ne 7, 3) := by decide +kernel
theorem dX12_leans_9 : decode cX12_leans 9 = .ok (.iconst 1, 1) := by decide +kernel
theorem dX12_leans_10 : decode cX12_leans 10 = .ok (.goto 4, 3) := by decide +kernel
theorem dX12_leans_13 : decode cX12_leans 13 = .ok (.iconst 0, 1) := by decide +kernel
theorem dX12_leans_14 : decode cX12_leans 14 = .ok (.putfield 51, 3) := by decide +kernel
theorem dX12_leans_17 : decode cX12_leans 17 = .ok (.iconst 0, 1) := by decide +kernel
theorem dX12_leans_18 : decode cX12_leans 18 = .ok (.istore_n 2, 1) := by decide +kernel
theorem dX12_leans_19 : decode cX12_leans 19 = .ok (.iconst 0, 1) := by decide +kernel
theorem dX12_leans_20 : decode cX12_leans 20 = .ok (.istore_n 3, 1) := by decide +kernel
theorem dX12_leans_21 : decode cX12_leans 21 = .ok (.iload_n 3, 1) := by decide +kernel
theorem dX12_leans_22 : decode cX12_leans 22 = .ok (.aload_n 0, 1) := by decide +kernel
theorem dX12_leans_23 : decode cX12_leans 23 = .ok (.getfield 7, 3) := by decide +kernel
theorem dX12_leans_26 : decode cX12_leans 26 = .ok (.iconst 3, 1) := by decide +kernel
theorem dX12_leans_27 : decode cX12_leans 27 = .ok (.iaload, 1) := by decide +kernel
theorem dX12_leans_28 : decode cX12_leans 28 = .ok (.if_icmp .ge 35, 3) := by decide +kernel
theorem dX12_leans_31 : decode cX12_leans 31 = .ok (.aload_n 0, 1) := by decide +kernel
theorem dX12_leans_32 : decode cX12_leans 32 = .ok (.getfield 51, 3) := by decide +kernel
theorem dX12_leans_35 : decode cX12_leans 35 = .ok (.ifCond .ne 28, 3) := by decide +kernel
theorem dX12_leans_38 : decode cX12_leans 38 = .ok (.iload_n 2, 1) := by decide +kernel
theorem dX12_leans_39 : decode cX12_leans 39 = .ok (.aload_n 0, 1) := by decide +kernel
theorem dX12_leans_40 : decode cX12_leans 40 = .ok (.iload_n 3, 1) := by decide +kernel
theorem dX12_leans_41 : decode cX12_leans 41 = .ok (.iload_n 1, 1) := by decide +kernel
theorem dX12_leans_42 : decode cX12_leans 42 = .ok (.invokevirtual 330, 3) := by decide +kernel
theorem dX12_leans_45 : decode cX12_leans 45 = .ok (.ifCond .eq 9, 3) := by decide +kernel
theorem dX12_leans_48 : decode cX12_leans 48 = .ok (.iconst 1, 1) := by decide +kernel
theorem dX12_leans_49 : decode cX12_leans 49 = .ok (.iload_n 3, 1) := by decide +kernel
theorem dX12_leans_50 : decode cX12_leans 50 = .ok (.ishl, 1) := by decide +kernel
theorem dX12_leans_51 : decode cX12_leans 51 = .ok (.goto 4, 3) := by decide +kernel
theorem dX12_leans_54 : decode cX12_leans 54 = .ok (.iconst 0, 1) := by decide +kernel
theorem dX12_leans_55 : decode cX12_leans 55 = .ok (.ior, 1) := by decide +kernel
theorem dX12_leans_56 : decode cX12_leans 56 = .ok (.istore_n 2, 1) := by decide +kernel
theorem dX12_leans_57 : decode cX12_leans 57 = .ok (.iinc 3 1, 3) := by decide +kernel
theorem dX12_leans_60 : decode cX12_leans 60 = .ok (.goto (-39), 3) := by decide +kernel
theorem dX12_leans_63 : decode cX12_leans 63 = .ok (.iload_n 2, 1) := by decide +kernel
theorem dX12_leans_64 : decode cX12_leans 64 = .ok (.ireturn, 1) := by decide +kernel
theorem dX12_gifts_0 : decode cX12_gifts 0 = .ok (.aload_n 0, 1) := by decide +kernel
theorem dX12_gifts_1 : decode cX12_gifts 1 = .ok (.aload_n 0, 1) := by decide +kernel
theorem dX12_gifts_2 : decode cX12_gifts 2 = .ok (.iload_n 1, 1) := by decide +kernel
theorem dX12_gifts_3 : decode cX12_gifts 3 = .ok (.iload_n 2, 1) := by decide +kernel
theorem dX12_gifts_4 : decode cX12_gifts 4 = .ok (.bipush 20, 2) := by decide +kernel
theorem dX12_gifts_6 : decode cX12_gifts 6 = .ok (.iload_n 3, 1) := by decide +kernel
theorem dX12_gifts_7 : decode cX12_gifts 7 = .ok (.invokevirtual 317, 3) := by decide +kernel
theorem dX12_gifts_10 : decode cX12_gifts 10 = .ok (.putfield 51, 3) := by decide +kernel
theorem dX12_gifts_13 : decode cX12_gifts 13 = .ok (.aload_n 0, 1) := by decide +kernel
theorem dX12_gifts_14 : decode cX12_gifts 14 = .ok (.getfield 51, 3) := by decide +kernel
theorem dX12_gifts_17 : decode cX12_gifts 17 = .ok (.ifCond .le 5, 3) := by decide +kernel
theorem dX12_gifts_20 : decode cX12_gifts 20 = .ok (.iconst 0, 1) := by decide +kernel
theorem dX12_gifts_21 : decode cX12_gifts 21 = .ok (.ireturn, 1) := by decide +kernel
theorem dX12_gifts_22 : decode cX12_gifts 22 = .ok (.aload_n 0, 1) := by decide +kernel
theorem dX12_gifts_23 : decode cX12_gifts 23 = .ok (.iload_n 1, 1) := by decide +kernel
theorem dX12_gifts_24 : decode cX12_gifts 24 = .ok (.iconst 4, 1) := by decide +kernel
theorem dX12_gifts_25 : decode cX12_gifts 25 = .ok (.invokevirtual 58, 3) := by decide +kernel
theorem dX12_gifts_28 : decode cX12_gifts 28 = .ok (.iconst 1, 1) := by decide +kernel
theorem dX12_gifts_29 : decode cX12_gifts 29 = .ok (.if_icmp .ne 5, 3) := by decide +kernel
theorem dX12_gifts_32 : decode cX12_gifts 32 = .ok (.iconst (-1), 1) := by decide +kernel
theorem dX12_gifts_33 : decode cX12_gifts 33 = .ok (.ireturn, 1) := by decide +kernel
theorem dX12_gifts_34 : decode cX12_gifts 34 = .ok (.aload_n 0, 1) := by decide +kernel
theorem dX12_gifts_35 : decode cX12_gifts 35 = .ok (.invokevirtual 188, 3) := by decide +kernel
theorem dX12_gifts_38 : decode cX12_gifts 38 = .ok (.iload_n 2, 1) := by decide +kernel
theorem dX12_gifts_39 : decode cX12_gifts 39 = .ok (.istore 4, 2) := by decide +kernel
theorem dX12_gifts_41 : decode cX12_gifts 41 = .ok (.iload 4, 2) := by decide +kernel
theorem dX12_gifts_43 : decode cX12_gifts 43 = .ok (.ifCond .lt 154, 3) := by decide +kernel
theorem dX12_gifts_46 : decode cX12_gifts 46 = .ok (.aload_n 0, 1) := by decide +kernel
theorem dX12_gifts_47 : decode cX12_gifts 47 = .ok (.getfield 7, 3) := by decide +kernel
theorem dX12_gifts_50 : decode cX12_gifts 50 = .ok (.bipush 8, 2) := by decide +kernel
theorem dX12_gifts_52 : decode cX12_gifts 52 = .ok (.sipush 9999, 3) := by decide +kernel
theorem dX12_gifts_55 : decode cX12_gifts 55 = .ok (.aload_n 0, 1) := by decide +kernel
theorem dX12_gifts_56 : decode cX12_gifts 56 = .ok (.getfield 16, 3) := by decide +kernel
theorem dX12_gifts_59 : decode cX12_gifts 59 = .ok (.bipush 8, 2) := by decide +kernel
theorem dX12_gifts_61 : decode cX12_gifts 61 = .ok (.iaload, 1) := by decide +kernel
theorem dX12_gifts_62 : decode cX12_gifts 62 = .ok (.iload 4, 2) := by decide +kernel
theorem dX12_gifts_64 : decode cX12_gifts 64 = .ok (.iadd, 1) := by decide +kernel
theorem dX12_gifts_65 : decode cX12_gifts 65 = .ok (.invokestatic 263, 3) := by decide +kernel
theorem dX12_gifts_68 : decode cX12_gifts 68 = .ok (.iastore, 1) := by decide +kernel
theorem dX12_gifts_69 : decode cX12_gifts 69 = .ok (.aload_n 0, 1) := by decide +kernel
theorem dX12_gifts_70 : decode cX12_gifts 70 = .ok (.iload_n 1, 1) := by decide +kernel
theorem dX12_gifts_71 : decode cX12_gifts 71 = .ok (.iconst 3, 1) := by decide +kernel
theorem dX12_gifts_72 : decode cX12_gifts 72 = .ok (.aload_n 0, 1) := by decide +kernel
theorem dX12_gifts_73 : decode cX12_gifts 73 = .ok (.getfield 16, 3) := by decide +kernel
theorem dX12_gifts_76 : decode cX12_gifts 76 = .ok (.bipush 110, 2) := by decide +kernel
theorem dX12_gifts_78 : decode cX12_gifts 78 = .ok (.iconst 5, 1) := by decide +kernel
theorem dX12_gifts_79 : decode cX12_gifts 79 = .ok (.iload_n 1, 1) := by decide +kernel
theorem dX12_gifts_80 : decode cX12_gifts 80 = .ok (.imul, 1) := by decide +kernel
theorem dX12_gifts_81 : decode cX12_gifts 81 = .ok (.iadd, 1) := by decide +kernel
theorem dX12_gifts_82 : decode cX12_gifts 82 = .ok (.iconst 3, 1) := by decide +kernel
theorem dX12_gifts_83 : decode cX12_gifts 83 = .ok (.iadd, 1) := by decide +kernel
theorem dX12_gifts_84 : decode cX12_gifts 84 = .ok (.iaload, 1) := by decide +kernel
theorem dX12_gifts_85 : decode cX12_gifts 85 = .ok (.iload 4, 2) := by decide +kernel
theorem dX12_gifts_87 : decode cX12_gifts 87 = .ok (.iadd, 1) := by decide +kernel
theorem dX12_gifts_88 : decode cX12_gifts 88 = .ok (.invokevirtual 141, 3) := by decide +kernel
theorem dX12_gifts_91 : decode cX12_gifts 91 = .ok (.iconst 0, 1) := by decide +kernel
theorem dX12_gifts_92 : decode cX12_gifts 92 = .ok (.istore 5, 2) := by decide +kernel
theorem dX12_gifts_94 : decode cX12_gifts 94 = .ok (.iload 5, 2) := by decide +kernel
theorem dX12_gifts_96 : decode cX12_gifts 96 = .ok (.bipush 100, 2) := by decide +kernel
theorem dX12_gifts_98 : decode cX12_gifts 98 = .ok (.if_icmp .ge 46, 3) := by decide +kernel
theorem dX12_gifts_101 : decode cX12_gifts 101 = .ok (.iload 4, 2) := by decide +kernel
theorem dX12_gifts_103 : decode cX12_gifts 103 = .ok (.iload_n 2, 1) := by decide +kernel
theorem dX12_gifts_104 : decode cX12_gifts 104 = .ok (.if_icmp .ge 40, 3) := by decide +kernel
theorem dX12_gifts_107 : decode cX12_gifts 107 = .ok (.aload_n 0, 1) := by decide +kernel
theorem dX12_gifts_108 : decode cX12_gifts 108 = .ok (.iload_n 1, 1) := by decide +kernel
theorem dX12_gifts_109 : decode cX12_gifts 109 = .ok (.iconst 2, 1) := by decide +kernel
theorem dX12_gifts_110 : decode cX12_gifts 110 = .ok (.iload 5, 2) := by decide +kernel
theorem dX12_gifts_112 : decode cX12_gifts 112 = .ok (.invokevirtual 141, 3) := by decide +kernel
theorem dX12_gifts_115 : decode cX12_gifts 115 = .ok (.aload_n 0, 1) := by decide +kernel
theorem dX12_gifts_116 : decode cX12_gifts 116 = .ok (.iload 4, 2) := by decide +kernel
theorem dX12_gifts_118 : decode cX12_gifts 118 = .ok (.iload 5, 2) := by decide +kernel
theorem dX12_gifts_120 : decode cX12_gifts 120 = .ok (.iload 5, 2) := by decide +kernel
theorem dX12_gifts_122 : decode cX12_gifts 122 = .ok (.ifCond .ne 7, 3) := by decide +kernel
theorem dX12_gifts_125 : decode cX12_gifts 125 = .ok (.iconst 0, 1) := by decide +kernel
theorem dX12_gifts_126 : decode cX12_gifts 126 = .ok (.goto 9, 3) := by decide +kernel
theorem dX12_gifts_129 : decode cX12_gifts 129 = .ok (.aload_n 0, 1) := by decide +kernel
theorem dX12_gifts_130 : decode cX12_gifts 130 = .ok (.iload_n 1, 1) := by decide +kernel
theorem dX12_gifts_131 : decode cX12_gifts 131 = .ok (.iload_n 3, 1) := by decide +kernel
theorem dX12_gifts_132 : decode cX12_gifts 132 = .ok (.invokevirtual 284, 3) := by decide +kernel
theorem dX12_gifts_135 : decode cX12_gifts 135 = .ok (.invokevirtual 333, 3) := by decide +kernel
theorem dX12_gifts_138 : decode cX12_gifts 138 = .ok (.iinc 5 1, 3) := by decide +kernel
theorem dX12_gifts_141 : decode cX12_gifts 141 = .ok (.goto (-47), 3) := by decide +kernel
theorem dX12_gifts_144 : decode cX12_gifts 144 = .ok (.iconst 0, 1) := by decide +kernel
theorem dX12_gifts_145 : decode cX12_gifts 145 = .ok (.istore 5, 2) := by decide +kernel
theorem dX12_gifts_147 : decode cX12_gifts 147 = .ok (.iload 5, 2) := by decide +kernel
theorem dX12_gifts_149 : decode cX12_gifts 149 = .ok (.bipush 100, 2) := by decide +kernel
theorem dX12_gifts_151 : decode cX12_gifts 151 = .ok (.if_icmp .ge 40, 3) := by decide +kernel
theorem dX12_gifts_154 : decode cX12_gifts 154 = .ok (.aload_n 0, 1) := by decide +kernel
theorem dX12_gifts_155 : decode cX12_gifts 155 = .ok (.getfield 32, 3) := by decide +kernel
theorem dX12_gifts_158 : decode cX12_gifts 158 = .ok (.bipush 100, 2) := by decide +kernel
theorem dX12_gifts_160 : decode cX12_gifts 160 = .ok (.iload 4, 2) := by decide +kernel
theorem dX12_gifts_162 : decode cX12_gifts 162 = .ok (.imul, 1) := by decide +kernel
theorem dX12_gifts_163 : decode cX12_gifts 163 = .ok (.iload 5, 2) := by decide +kernel
theorem dX12_gifts_165 : decode cX12_gifts 165 = .ok (.iadd, 1) := by decide +kernel
theorem dX12_gifts_166 : decode cX12_gifts 166 = .ok (.iload 4, 2) := by decide +kernel
theorem dX12_gifts_168 : decode cX12_gifts 168 = .ok (.iload_n 2, 1) := by decide +kernel
theorem dX12_gifts_169 : decode cX12_gifts 169 = .ok (.if_icmp .ne 7, 3) := by decide +kernel
theorem dX12_gifts_172 : decode cX12_gifts 172 = .ok (.iconst 0, 1) := by decide +kernel
theorem dX12_gifts_173 : decode cX12_gifts 173 = .ok (.goto 11, 3) := by decide +kernel
theorem dX12_gifts_176 : decode cX12_gifts 176 = .ok (.aload_n 0, 1) := by decide +kernel
theorem dX12_gifts_177 : decode cX12_gifts 177 = .ok (.iload 4, 2) := by decide +kernel
theorem dX12_gifts_179 : decode cX12_gifts 179 = .ok (.iload 5, 2) := by decide +kernel
theorem dX12_gifts_181 : decode cX12_gifts 181 = .ok (.invokevirtual 335, 3) := by decide +kernel
theorem dX12_gifts_184 : decode cX12_gifts 184 = .ok (.iastore, 1) := by decide +kernel
theorem dX12_gifts_185 : decode cX12_gifts 185 = .ok (.iinc 5 1, 3) := by decide +kernel
theorem dX12_gifts_188 : decode cX12_gifts 188 = .ok (.goto (-41), 3) := by decide +kernel
theorem dX12_gifts_191 : decode cX12_gifts 191 = .ok (.iinc 4 (-1), 3) := by decide +kernel
theorem dX12_gifts_194 : decode cX12_gifts 194 = .ok (.goto (-153), 3) := by decide +kernel
theorem dX12_gifts_197 : decode cX12_gifts 197 = .ok (.aload_n 0, 1) := by decide +kernel
theorem dX12_gifts_198 : decode cX12_gifts 198 = .ok (.getfield 32, 3) := by decide +kernel
theorem dX12_gifts_201 : decode cX12_gifts 201 = .ok (.aload_n 0, 1) := by decide +kernel
theorem dX12_gifts_202 : decode cX12_gifts 202 = .ok (.iload_n 1, 1) := by decide +kernel
theorem dX12_gifts_203 : decode cX12_gifts 203 = .ok (.invokevirtual 338, 3) := by decide +kernel
theorem dX12_gifts_206 : decode cX12_gifts 206 = .ok (.iaload, 1) := by decide +kernel
theorem dX12_gifts_207 : decode cX12_gifts 207 = .ok (.istore 4, 2) := by decide +kernel
theorem dX12_gifts_209 : decode cX12_gifts 209 = .ok (.aload_n 0, 1) := by decide +kernel
theorem dX12_gifts_210 : decode cX12_gifts 210 = .ok (.invokevirtual 198, 3) := by decide +kernel
theorem dX12_gifts_213 : decode cX12_gifts 213 = .ok (.iload 4, 2) := by decide +kernel
theorem dX12_gifts_215 : decode cX12_gifts 215 = .ok (.bipush 40, 2) := by decide +kernel
theorem dX12_gifts_217 : decode cX12_gifts 217 = .ok (.if_icmp .le 7, 3) := by decide +kernel
theorem dX12_gifts_220 : decode cX12_gifts 220 = .ok (.iconst (-1), 1) := by decide +kernel
theorem dX12_gifts_221 : decode cX12_gifts 221 = .ok (.goto 5, 3) := by decide +kernel
theorem dX12_gifts_224 : decode cX12_gifts 224 = .ok (.iload 4, 2) := by decide +kernel
theorem dX12_gifts_226 : decode cX12_gifts 226 = .ok (.ireturn, 1) := by decide +kernel
theorem dX12_ofAside_0 : decode cX12_ofAside 0 = .ok (.aload_n 0, 1) := by decide +kernel
theorem dX12_ofAside_1 : decode cX12_ofAside 1 = .ok (.getfield 16, 3) := by decide +kernel
theorem dX12_ofAside_4 : decode cX12_ofAside 4 = .ok (.bipush 110, 2) := by decide +kernel
theorem dX12_ofAside_6 : decode cX12_ofAside 6 = .ok (.iconst 5, 1) := by decide +kernel
theorem dX12_ofAside_7 : decode cX12_ofAside 7 = .ok (.iload_n 1, 1) := by decide +kernel
theorem dX12_ofAside_8 : decode cX12_ofAside 8 = .ok (.imul, 1) := by decide +kernel
theorem dX12_ofAside_9 : decode cX12_ofAside 9 = .ok (.iadd, 1) := by decide +kernel
theorem dX12_ofAside_10 : decode cX12_ofAside 10 = .ok (.iconst 2, 1) := by decide +kernel
theorem dX12_ofAside_11 : decode cX12_ofAside 11 = .ok (.iadd, 1) := by decide +kernel
theorem dX12_ofAside_12 : decode cX12_ofAside 12 = .ok (.iaload, 1) := by decide +kernel
theorem dX12_ofAside_13 : decode cX12_ofAside 13 = .ok (.ireturn, 1) := by decide +kernel
theorem dX12_by_0 : decode cX12_by 0 = .ok (.aload_n 0, 1) := by decide +kernel
theorem dX12_by_1 : decode cX12_by 1 = .ok (.getfield 35, 3) := by decide +kernel
theorem dX12_by_4 : decode cX12_by 4 = .ok (.iload_n 2, 1) := by decide +kernel
theorem dX12_by_5 : decode cX12_by 5 = .ok (.iload_n 3, 1) := by decide +kernel
theorem dX12_by_6 : decode cX12_by 6 = .ok (.aload_n 0, 1) := by decide +kernel
theorem dX12_by_7 : decode cX12_by 7 = .ok (.getfield 7, 3) := by decide +kernel
theorem dX12_by_10 : decode cX12_by 10 = .ok (.iconst 5, 1) := by decide +kernel
theorem dX12_by_11 : decode cX12_by 11 = .ok (.iaload, 1) := by decide +kernel
theorem dX12_by_12 : decode cX12_by 12 = .ok (.if_icmp .ge 9, 3) := by decide +kernel
theorem dX12_by_15 : decode cX12_by 15 = .ok (.ldc_w 341, 3) := by decide +kernel
theorem dX12_by_18 : decode cX12_by 18 = .ok (.goto 16, 3) := by decide +kernel
theorem dX12_by_21 : decode cX12_by 21 = .ok (.aload_n 0, 1) := by decide +kernel
theorem dX12_by_22 : decode cX12_by 22 = .ok (.getfield 32, 3) := by decide +kernel
theorem dX12_by_25 : decode cX12_by 25 = .ok (.bipush 100, 2) := by decide +kernel
theorem dX12_by_27 : decode cX12_by 27 = .ok (.iload_n 1, 1) := by decide +kernel
theorem dX12_by_28 : decode cX12_by 28 = .ok (.iconst 1, 1) := by decide +kernel
theorem dX12_by_29 : decode cX12_by 29 = .ok (.iadd, 1) := by decide +kernel
theorem dX12_by_30 : decode cX12_by 30 = .ok (.imul, 1) := by decide +kernel
theorem dX12_by_31 : decode cX12_by 31 = .ok (.iload_n 3, 1) := by decide +kernel
theorem dX12_by_32 : decode cX12_by 32 = .ok (.iadd, 1) := by decide +kernel
theorem dX12_by_33 : decode cX12_by 33 = .ok (.iaload, 1) := by decide +kernel
theorem dX12_by_34 : decode cX12_by 34 = .ok (.iastore, 1) := by decide +kernel
theorem dX12_by_35 : decode cX12_by 35 = .ok (.return_, 1) := by decide +kernel
theorem dX12_fewest_0 : decode cX12_fewest 0 = .ok (.ldc_w 341, 3) := by decide +kernel
theorem dX12_fewest_3 : decode cX12_fewest 3 = .ok (.istore_n 3, 1) := by decide +kernel
theorem dX12_fewest_4 : decode cX12_fewest 4 = .ok (.iconst 0, 1) := by decide +kernel
theorem dX12_fewest_5 : decode cX12_fewest 5 = .ok (.istore 4, 2) := by decide +kernel
theorem dX12_fewest_7 : decode cX12_fewest 7 = .ok (.iload 4, 2) := by decide +kernel
theorem dX12_fewest_9 : decode cX12_fewest 9 = .ok (.bipush 20, 2) := by decide +kernel
theorem dX12_fewest_11 : decode cX12_fewest 11 = .ok (.if_icmp .gt 45, 3) := by decide +kernel
theorem dX12_fewest_14 : decode cX12_fewest 14 = .ok (.aload_n 0, 1) := by decide +kernel
theorem dX12_fewest_15 : decode cX12_fewest 15 = .ok (.getfield 35, 3) := by decide +kernel
theorem dX12_fewest_18 : decode cX12_fewest 18 = .ok (.bipush 99, 2) := by decide +kernel
theorem dX12_fewest_20 : decode cX12_fewest 20 = .ok (.iload_n 2, 1) := by decide +kernel
theorem dX12_fewest_21 : decode cX12_fewest 21 = .ok (.iconst 5, 1) := by decide +kernel
theorem dX12_fewest_22 : decode cX12_fewest 22 = .ok (.iload 4, 2) := by decide +kernel
theorem dX12_fewest_24 : decode cX12_fewest 24 = .ok (.imul, 1) := by decide +kernel
theorem dX12_fewest_25 : decode cX12_fewest 25 = .ok (.iadd, 1) := by decide +kernel
theorem dX12_fewest_26 : decode cX12_fewest 26 = .ok (.invokestatic 263, 3) := by decide +kernel
theorem dX12_fewest_29 : decode cX12_fewest 29 = .ok (.iaload, 1) := by decide +kernel
theorem dX12_fewest_30 : decode cX12_fewest 30 = .ok (.istore 5, 2) := by decide +kernel
theorem dX12_fewest_32 : decode cX12_fewest 32 = .ok (.iload 5, 2) := by decide +kernel
theorem dX12_fewest_34 : decode cX12_fewest 34 = .ok (.ldc_w 341, 3) := by decide +kernel
theorem dX12_fewest_37 : decode cX12_fewest 37 = .ok (.if_icmp .ge 13, 3) := by decide +kernel
theorem dX12_fewest_40 : decode cX12_fewest 40 = .ok (.iload_n 3, 1) := by decide +kernel
theorem dX12_fewest_41 : decode cX12_fewest 41 = .ok (.iload 4, 2) := by decide +kernel
theorem dX12_fewest_43 : decode cX12_fewest 43 = .ok (.iload 5, 2) := by decide +kernel
theorem dX12_fewest_45 : decode cX12_fewest 45 = .ok (.iadd, 1) := by decide +kernel
theorem dX12_fewest_46 : decode cX12_fewest 46 = .ok (.invokestatic 263, 3) := by decide +kernel
theorem dX12_fewest_49 : decode cX12_fewest 49 = .ok (.istore_n 3, 1) := by decide +kernel
theorem dX12_fewest_50 : decode cX12_fewest 50 = .ok (.iinc 4 1, 3) := by decide +kernel
theorem dX12_fewest_53 : decode cX12_fewest 53 = .ok (.goto (-46), 3) := by decide +kernel
theorem dX12_fewest_56 : decode cX12_fewest 56 = .ok (.iload_n 3, 1) := by decide +kernel
theorem dX12_fewest_57 : decode cX12_fewest 57 = .ok (.ireturn, 1) := by decide +kernel
theorem dX12_ratherOf_0 : decode cX12_ratherOf 0 = .ok (.aload_n 0, 1) := by decide +kernel
theorem dX12_ratherOf_1 : decode cX12_ratherOf 1 = .ok (.iload_n 1, 1) := by decide +kernel
theorem dX12_ratherOf_2 : decode cX12_ratherOf 2 = .ok (.invokevirtual 121, 3) := by decide +kernel
theorem dX12_ratherOf_5 : decode cX12_ratherOf 5 = .ok (.iconst (-1), 1) := by decide +kernel
theorem dX12_ratherOf_6 : decode cX12_ratherOf 6 = .ok (.if_icmp .ne 7, 3) := by decide +kernel
theorem dX12_ratherOf_9 : decode cX12_ratherOf 9 = .ok (.iconst 0, 1) := by decide +kernel
theorem dX12_ratherOf_10 : decode cX12_ratherOf 10 = .ok (.goto 13, 3) := by decide +kernel
theorem dX12_ratherOf_13 : decode cX12_ratherOf 13 = .ok (.aload_n 0, 1) := by decide +kernel
theorem dX12_ratherOf_14 : decode cX12_ratherOf 14 = .ok (.iload_n 1, 1) := by decide +kernel
theorem dX12_ratherOf_15 : decode cX12_ratherOf 15 = .ok (.aload_n 0, 1) := by decide +kernel
theorem dX12_ratherOf_16 : decode cX12_ratherOf 16 = .ok (.iload_n 1, 1) := by decide +kernel
theorem dX12_ratherOf_17 : decode cX12_ratherOf 17 = .ok (.invokevirtual 121, 3) := by decide +kernel
theorem dX12_ratherOf_20 : decode cX12_ratherOf 20 = .ok (.invokevirtual 258, 3) := by decide +kernel
theorem dX12_ratherOf_23 : decode cX12_ratherOf 23 = .ok (.istore_n 2, 1) := by decide +kernel
theorem dX12_ratherOf_24 : decode cX12_ratherOf 24 = .ok (.iconst 0, 1) := by decide +kernel
theorem dX12_ratherOf_25 : decode cX12_ratherOf 25 = .ok (.istore_n 3, 1) := by decide +kernel
theorem dX12_ratherOf_26 : decode cX12_ratherOf 26 = .ok (.iconst 0, 1) := by decide +kernel
theorem dX12_ratherOf_27 : decode cX12_ratherOf 27 = .ok (.istore 4, 2) := by decide +kernel
theorem dX12_ratherOf_29 : decode cX12_ratherOf 29 = .ok (.iload 4, 2) := by decide +kernel
theorem dX12_ratherOf_31 : decode cX12_ratherOf 31 = .ok (.aload_n 0, 1) := by decide +kernel
theorem dX12_ratherOf_32 : decode cX12_ratherOf 32 = .ok (.getfield 7, 3) := by decide +kernel
theorem dX12_ratherOf_35 : decode cX12_ratherOf 35 = .ok (.iconst 3, 1) := by decide +kernel
theorem dX12_ratherOf_36 : decode cX12_ratherOf 36 = .ok (.iaload, 1) := by decide +kernel
theorem dX12_ratherOf_37 : decode cX12_ratherOf 37 = .ok (.if_icmp .ge 37, 3) := by decide +kernel
theorem dX12_ratherOf_40 : decode cX12_ratherOf 40 = .ok (.iload_n 3, 1) := by decide +kernel
theorem dX12_ratherOf_41 : decode cX12_ratherOf 41 = .ok (.iload 4, 2) := by decide +kernel
theorem dX12_ratherOf_43 : decode cX12_ratherOf 43 = .ok (.iload_n 1, 1) := by decide +kernel
theorem dX12_ratherOf_44 : decode cX12_ratherOf 44 = .ok (.if_icmp .eq 21, 3) := by decide +kernel
theorem dX12_ratherOf_47 : decode cX12_ratherOf 47 = .ok (.aload_n 0, 1) := by decide +kernel
theorem dX12_ratherOf_48 : decode cX12_ratherOf 48 = .ok (.iload_n 1, 1) := by decide +kernel
theorem dX12_ratherOf_49 : decode cX12_ratherOf 49 = .ok (.iload 4, 2) := by decide +kernel
theorem dX12_ratherOf_51 : decode cX12_ratherOf 51 = .ok (.invokevirtual 258, 3) := by decide +kernel
theorem dX12_ratherOf_54 : decode cX12_ratherOf 54 = .ok (.iload_n 2, 1) := by decide +kernel
theorem dX12_ratherOf_55 : decode cX12_ratherOf 55 = .ok (.if_icmp .le 10, 3) := by decide +kernel
theorem dX12_ratherOf_58 : decode cX12_ratherOf 58 = .ok (.iconst 1, 1) := by decide +kernel
theorem dX12_ratherOf_59 : decode cX12_ratherOf 59 = .ok (.iload 4, 2) := by decide +kernel
theorem dX12_ratherOf_61 : decode cX12_ratherOf 61 = .ok (.ishl, 1) := by decide +kernel
theorem dX12_ratherOf_62 : decode cX12_ratherOf 62 = .ok (.goto 4, 3) := by decide +kernel
theorem dX12_ratherOf_65 : decode cX12_ratherOf 65 = .ok (.iconst 0, 1) := by decide +kernel
theorem dX12_ratherOf_66 : decode cX12_ratherOf 66 = .ok (.ior, 1) := by decide +kernel
theorem dX12_ratherOf_67 : decode cX12_ratherOf 67 = .ok (.istore_n 3, 1) := by decide +kernel
theorem dX12_ratherOf_68 : decode cX12_ratherOf 68 = .ok (.iinc 4 1, 3) := by decide +kernel
theorem dX12_ratherOf_71 : decode cX12_ratherOf 71 = .ok (.goto (-42), 3) := by decide +kernel
theorem dX12_ratherOf_74 : decode cX12_ratherOf 74 = .ok (.iload_n 3, 1) := by decide +kernel
theorem dX12_ratherOf_75 : decode cX12_ratherOf 75 = .ok (.ireturn, 1) := by decide +kernel
theorem dX12_rather_0 : decode cX12_rather 0 = .ok (.aload_n 0, 1) := by decide +kernel
theorem dX12_rather_1 : decode cX12_rather 1 = .ok (.aload_n 0, 1) := by decide +kernel
theorem dX12_rather_2 : decode cX12_rather 2 = .ok (.iload_n 1, 1) := by decide +kernel
theorem dX12_rather_3 : decode cX12_rather 3 = .ok (.invokevirtual 293, 3) := by decide +kernel
theorem dX12_rather_6 : decode cX12_rather 6 = .ok (.ifCond .ne 7, 3) := by decide +kernel
theorem dX12_rather_9 : decode cX12_rather 9 = .ok (.iconst 1, 1) := by decide +kernel
theorem dX12_rather_10 : decode cX12_rather 10 = .ok (.goto 4, 3) := by decide +kernel
theorem dX12_rather_13 : decode cX12_rather 13 = .ok (.iconst 0, 1) := by decide +kernel
theorem dX12_rather_14 : decode cX12_rather 14 = .ok (.putfield 51, 3) := by decide +kernel
theorem dX12_rather_17 : decode cX12_rather 17 = .ok (.aload_n 0, 1) := by decide +kernel
theorem dX12_rather_18 : decode cX12_rather 18 = .ok (.getfield 51, 3) := by decide +kernel
theorem dX12_rather_21 : decode cX12_rather 21 = .ok (.ifCond .le 7, 3) := by decide +kernel
theorem dX12_rather_24 : decode cX12_rather 24 = .ok (.iconst 0, 1) := by decide +kernel
theorem dX12_rather_25 : decode cX12_rather 25 = .ok (.goto 8, 3) := by decide +kernel
theorem dX12_rather_28 : decode cX12_rather 28 = .ok (.aload_n 0, 1) := by decide +kernel
theorem dX12_rather_29 : decode cX12_rather 29 = .ok (.iload_n 1, 1) := by decide +kernel
theorem dX12_rather_30 : decode cX12_rather 30 = .ok (.invokevirtual 342, 3) := by decide +kernel
theorem dX12_rather_33 : decode cX12_rather 33 = .ok (.ireturn, 1) := by decide +kernel
theorem dX12_lovers_0 : decode cX12_lovers 0 = .ok (.aload_n 0, 1) := by decide +kernel
theorem dX12_lovers_1 : decode cX12_lovers 1 = .ok (.iconst 0, 1) := by decide +kernel
theorem dX12_lovers_2 : decode cX12_lovers 2 = .ok (.putfield 51, 3) := by decide +kernel
theorem dX12_lovers_5 : decode cX12_lovers 5 = .ok (.iconst 0, 1) := by decide +kernel
theorem dX12_lovers_6 : decode cX12_lovers 6 = .ok (.istore_n 2, 1) := by decide +kernel
theorem dX12_lovers_7 : decode cX12_lovers 7 = .ok (.iconst (-1), 1) := by decide +kernel
theorem dX12_lovers_8 : decode cX12_lovers 8 = .ok (.istore_n 3, 1) := by decide +kernel
theorem dX12_lovers_9 : decode cX12_lovers 9 = .ok (.iconst 0, 1) := by decide +kernel
theorem dX12_lovers_10 : decode cX12_lovers 10 = .ok (.istore 4, 2) := by decide +kernel
theorem dX12_lovers_12 : decode cX12_lovers 12 = .ok (.iload 4, 2) := by decide +kernel
theorem dX12_lovers_14 : decode cX12_lovers 14 = .ok (.aload_n 0, 1) := by decide +kernel
theorem dX12_lovers_15 : decode cX12_lovers 15 = .ok (.getfield 7, 3) := by decide +kernel
theorem dX12_lovers_18 : decode cX12_lovers 18 = .ok (.iconst 3, 1) := by decide +kernel
theorem dX12_lovers_19 : decode cX12_lovers 19 = .ok (.iaload, 1) := by decide +kernel
theorem dX12_lovers_20 : decode cX12_lovers 20 = .ok (.if_icmp .ge 98, 3) := by decide +kernel
theorem dX12_lovers_23 : decode cX12_lovers 23 = .ok (.iload 4, 2) := by decide +kernel
theorem dX12_lovers_25 : decode cX12_lovers 25 = .ok (.iconst 1, 1) := by decide +kernel
theorem dX12_lovers_26 : decode cX12_lovers 26 = .ok (.iadd, 1) := by decide +kernel
theorem dX12_lovers_27 : decode cX12_lovers 27 = .ok (.istore 5, 2) := by decide +kernel
theorem dX12_lovers_29 : decode cX12_lovers 29 = .ok (.iload 5, 2) := by decide +kernel
theorem dX12_lovers_31 : decode cX12_lovers 31 = .ok (.aload_n 0, 1) := by decide +kernel
theorem dX12_lovers_32 : decode cX12_lovers 32 = .ok (.getfield 7, 3) := by decide +kernel
theorem dX12_lovers_35 : decode cX12_lovers 35 = .ok (.iconst 3, 1) := by decide +kernel
theorem dX12_lovers_36 : decode cX12_lovers 36 = .ok (.iaload, 1) := by decide +kernel
theorem dX12_lovers_37 : decode cX12_lovers 37 = .ok (.if_icmp .ge 75, 3) := by decide +kernel
theorem dX12_lovers_40 : decode cX12_lovers 40 = .ok (.aload_n 0, 1) := by decide +kernel
theorem dX12_lovers_41 : decode cX12_lovers 41 = .ok (.iload 4, 2) := by decide +kernel
theorem dX12_lovers_43 : decode cX12_lovers 43 = .ok (.invokevirtual 342, 3) := by decide +kernel
theorem dX12_lovers_46 : decode cX12_lovers 46 = .ok (.iload 5, 2) := by decide +kernel
theorem dX12_lovers_48 : decode cX12_lovers 48 = .ok (.invokestatic 65, 3) := by decide +kernel
theorem dX12_lovers_51 : decode cX12_lovers 51 = .ok (.ifCond .eq 55, 3) := by decide +kernel
theorem dX12_lovers_54 : decode cX12_lovers 54 = .ok (.aload_n 0, 1) := by decide +kernel
theorem dX12_lovers_55 : decode cX12_lovers 55 = .ok (.iload 5, 2) := by decide +kernel
theorem dX12_lovers_57 : decode cX12_lovers 57 = .ok (.invokevirtual 342, 3) := by decide +kernel
theorem dX12_lovers_60 : decode cX12_lovers 60 = .ok (.iload 4, 2) := by decide +kernel
theorem dX12_lovers_62 : decode cX12_lovers 62 = .ok (.invokestatic 65, 3) := by decide +kernel
theorem dX12_lovers_65 : decode cX12_lovers 65 = .ok (.ifCond .eq 41, 3) := by decide +kernel
theorem dX12_lovers_68 : decode cX12_lovers 68 = .ok (.aload_n 0, 1) := by decide +kernel
theorem dX12_lovers_69 : decode cX12_lovers 69 = .ok (.iload 4, 2) := by decide +kernel
theorem dX12_lovers_71 : decode cX12_lovers 71 = .ok (.iconst 3, 1) := by decide +kernel
theorem dX12_lovers_72 : decode cX12_lovers 72 = .ok (.invokevirtual 62, 3) := by decide +kernel
theorem dX12_lovers_75 : decode cX12_lovers 75 = .ok (.aload_n 0, 1) := by decide +kernel
theorem dX12_lovers_76 : decode cX12_lovers 76 = .ok (.iload 5, 2) := by decide +kernel
theorem dX12_lovers_78 : decode cX12_lovers 78 = .ok (.iconst 3, 1) := by decide +kernel
theorem dX12_lovers_79 : decode cX12_lovers 79 = .ok (.invokevirtual 62, 3) := by decide +kernel
theorem dX12_lovers_82 : decode cX12_lovers 82 = .ok (.iadd, 1) := by decide +kernel
theorem dX12_lovers_83 : decode cX12_lovers 83 = .ok (.ifCond .le 6, 3) := by decide +kernel
theorem dX12_lovers_86 : decode cX12_lovers 86 = .ok (.goto 20, 3) := by decide +kernel
theorem dX12_lovers_89 : decode cX12_lovers 89 = .ok (.iinc 2 1, 3) := by decide +kernel
theorem dX12_lovers_92 : decode cX12_lovers 92 = .ok (.iload_n 3, 1) := by decide +kernel
theorem dX12_lovers_93 : decode cX12_lovers 93 = .ok (.iconst (-1), 1) := by decide +kernel
theorem dX12_lovers_94 : decode cX12_lovers 94 = .ok (.if_icmp .ne 12, 3) := by decide +kernel
theorem dX12_lovers_97 : decode cX12_lovers 97 = .ok (.bipush 10, 2) := by decide +kernel
theorem dX12_lovers_99 : decode cX12_lovers 99 = .ok (.iload 4, 2) := by decide +kernel
theorem dX12_lovers_101 : decode cX12_lovers 101 = .ok (.imul, 1) := by decide +kernel
theorem dX12_lovers_102 : decode cX12_lovers 102 = .ok (.iload 5, 2) := by decide +kernel
theorem dX12_lovers_104 : decode cX12_lovers 104 = .ok (.iadd, 1) := by decide +kernel
theorem dX12_lovers_105 : decode cX12_lovers 105 = .ok (.istore_n 3, 1) := by decide +kernel
theorem dX12_lovers_106 : decode cX12_lovers 106 = .ok (.iinc 5 1, 3) := by decide +kernel
theorem dX12_lovers_109 : decode cX12_lovers 109 = .ok (.goto (-80), 3) := by decide +kernel
theorem dX12_lovers_112 : decode cX12_lovers 112 = .ok (.iinc 4 1, 3) := by decide +kernel
theorem dX12_lovers_115 : decode cX12_lovers 115 = .ok (.goto (-103), 3) := by decide +kernel
theorem dX12_lovers_118 : decode cX12_lovers 118 = .ok (.iload_n 1, 1) := by decide +kernel
theorem dX12_lovers_119 : decode cX12_lovers 119 = .ok (.ifCond .eq 7, 3) := by decide +kernel
theorem dX12_lovers_122 : decode cX12_lovers 122 = .ok (.iload_n 3, 1) := by decide +kernel
theorem dX12_lovers_123 : decode cX12_lovers 123 = .ok (.goto 4, 3) := by decide +kernel
theorem dX12_lovers_126 : decode cX12_lovers 126 = .ok (.iload_n 2, 1) := by decide +kernel
theorem dX12_lovers_127 : decode cX12_lovers 127 = .ok (.ireturn, 1) := by decide +kernel
theorem dX12_prefers_0 : decode cX12_prefers 0 = .ok (.aload_n 0, 1) := by decide +kernel
theorem dX12_prefers_1 : decode cX12_prefers 1 = .ok (.iload_n 1, 1) := by decide +kernel
theorem dX12_prefers_2 : decode cX12_prefers 2 = .ok (.iload_n 2, 1) := by decide +kernel
theorem dX12_prefers_3 : decode cX12_prefers 3 = .ok (.invokevirtual 258, 3) := by decide +kernel
theorem dX12_prefers_6 : decode cX12_prefers 6 = .ok (.aload_n 0, 1) := by decide +kernel
theorem dX12_prefers_7 : decode cX12_prefers 7 = .ok (.getfield 38, 3) := by decide +kernel
theorem dX12_prefers_10 : decode cX12_prefers 10 = .ok (.iload_n 1, 1) := by decide +kernel
theorem dX12_prefers_11 : decode cX12_prefers 11 = .ok (.iaload, 1) := by decide +kernel
theorem dX12_prefers_12 : decode cX12_prefers 12 = .ok (.iload_n 1, 1) := by decide +kernel
theorem dX12_prefers_13 : decode cX12_prefers 13 = .ok (.if_icmp .ne 7, 3) := by decide +kernel
theorem dX12_prefers_16 : decode cX12_prefers 16 = .ok (.iconst (-1), 1) := by decide +kernel
theorem dX12_prefers_17 : decode cX12_prefers 17 = .ok (.goto 14, 3) := by decide +kernel
theorem dX12_prefers_20 : decode cX12_prefers 20 = .ok (.aload_n 0, 1) := by decide +kernel
theorem dX12_prefers_21 : decode cX12_prefers 21 = .ok (.iload_n 1, 1) := by decide +kernel
theorem dX12_prefers_22 : decode cX12_prefers 22 = .ok (.aload_n 0, 1) := by decide +kernel
theorem dX12_prefers_23 : decode cX12_prefers 23 = .ok (.getfield 38, 3) := by decide +kernel
theorem dX12_prefers_26 : decode cX12_prefers 26 = .ok (.iload_n 1, 1) := by decide +kernel
theorem dX12_prefers_27 : decode cX12_prefers 27 = .ok (.iaload, 1) := by decide +kernel
theorem dX12_prefers_28 : decode cX12_prefers 28 = .ok (.invokevirtual 258, 3) := by decide +kernel
theorem dX12_prefers_31 : decode cX12_prefers 31 = .ok (.if_icmp .le 7, 3) := by decide +kernel
theorem dX12_prefers_34 : decode cX12_prefers 34 = .ok (.iconst 1, 1) := by decide +kernel
theorem dX12_prefers_35 : decode cX12_prefers 35 = .ok (.goto 4, 3) := by decide +kernel
theorem dX12_prefers_38 : decode cX12_prefers 38 = .ok (.iconst 0, 1) := by decide +kernel
theorem dX12_prefers_39 : decode cX12_prefers 39 = .ok (.ireturn, 1) := by decide +kernel
theorem dX12_isSteady_0 : decode cX12_isSteady 0 = .ok (.iconst 0, 1) := by decide +kernel
theorem dX12_isSteady_1 : decode cX12_isSteady 1 = .ok (.istore_n 1, 1) := by decide +kernel
theorem dX12_isSteady_2 : decode cX12_isSteady 2 = .ok (.iload_n 1, 1) := by decide +kernel
theorem dX12_isSteady_3 : decode cX12_isSteady 3 = .ok (.aload_n 0, 1) := by decide +kernel
theorem dX12_isSteady_4 : decode cX12_isSteady 4 = .ok (.getfield 7, 3) := by decide +kernel
theorem dX12_isSteady_7 : decode cX12_isSteady 7 = .ok (.iconst 3, 1) := by decide +kernel
theorem dX12_isSteady_8 : decode cX12_isSteady 8 = .ok (.iaload, 1) := by decide +kernel
theorem dX12_isSteady_9 : decode cX12_isSteady 9 = .ok (.if_icmp .ge 59, 3) := by decide +kernel
theorem dX12_isSteady_12 : decode cX12_isSteady 12 = .ok (.iload_n 1, 1) := by decide +kernel
theorem dX12_isSteady_13 : decode cX12_isSteady 13 = .ok (.iconst 1, 1) := by decide +kernel
theorem dX12_isSteady_14 : decode cX12_isSteady 14 = .ok (.iadd, 1) := by decide +kernel
theorem dX12_isSteady_15 : decode cX12_isSteady 15 = .ok (.istore_n 2, 1) := by decide +kernel
theorem dX12_isSteady_16 : decode cX12_isSteady 16 = .ok (.iload_n 2, 1) := by decide +kernel
theorem dX12_isSteady_17 : decode cX12_isSteady 17 = .ok (.aload_n 0, 1) := by decide +kernel
theorem dX12_isSteady_18 : decode cX12_isSteady 18 = .ok (.getfield 7, 3) := by decide +kernel
theorem dX12_isSteady_21 : decode cX12_isSteady 21 = .ok (.iconst 3, 1) := by decide +kernel
theorem dX12_isSteady_22 : decode cX12_isSteady 22 = .ok (.iaload, 1) := by decide +kernel
theorem dX12_isSteady_23 : decode cX12_isSteady 23 = .ok (.if_icmp .ge 39, 3) := by decide +kernel
theorem dX12_isSteady_26 : decode cX12_isSteady 26 = .ok (.aload_n 0, 1) := by decide +kernel
theorem dX12_isSteady_27 : decode cX12_isSteady 27 = .ok (.getfield 38, 3) := by decide +kernel
theorem dX12_isSteady_30 : decode cX12_isSteady 30 = .ok (.iload_n 1, 1) := by decide +kernel
theorem dX12_isSteady_31 : decode cX12_isSteady 31 = .ok (.iaload, 1) := by decide +kernel
theorem dX12_isSteady_32 : decode cX12_isSteady 32 = .ok (.iload_n 2, 1) := by decide +kernel
theorem dX12_isSteady_33 : decode cX12_isSteady 33 = .ok (.if_icmp .eq 23, 3) := by decide +kernel
theorem dX12_isSteady_36 : decode cX12_isSteady 36 = .ok (.aload_n 0, 1) := by decide +kernel
theorem dX12_isSteady_37 : decode cX12_isSteady 37 = .ok (.iload_n 1, 1) := by decide +kernel
theorem dX12_isSteady_38 : decode cX12_isSteady 38 = .ok (.iload_n 2, 1) := by decide +kernel
theorem dX12_isSteady_39 : decode cX12_isSteady 39 = .ok (.invokevirtual 345, 3) := by decide +kernel
theorem dX12_isSteady_42 : decode cX12_isSteady 42 = .ok (.ifCond .eq 14, 3) := by decide +kernel
theorem dX12_isSteady_45 : decode cX12_isSteady 45 = .ok (.aload_n 0, 1) := by decide +kernel
theorem dX12_isSteady_46 : decode cX12_isSteady 46 = .ok (.iload_n 2, 1) := by decide +kernel
theorem dX12_isSteady_47 : decode cX12_isSteady 47 = .ok (.iload_n 1, 1) := by decide +kernel
theorem dX12_isSteady_48 : decode cX12_isSteady 48 = .ok (.invokevirtual 345, 3) := by decide +kernel
theorem dX12_isSteady_51 : decode cX12_isSteady 51 = .ok (.ifCond .eq 5, 3) := by decide +kernel
theorem dX12_isSteady_54 : decode cX12_isSteady 54 = .ok (.iconst 0, 1) := by decide +kernel
theorem dX12_isSteady_55 : decode cX12_isSteady 55 = .ok (.ireturn, 1) := by decide +kernel
theorem dX12_isSteady_56 : decode cX12_isSteady 56 = .ok (.iinc 2 1, 3) := by decide +kernel
theorem dX12_isSteady_59 : decode cX12_isSteady 59 = .ok (.goto (-43), 3) := by decide +kernel
theorem dX12_isSteady_62 : decode cX12_isSteady 62 = .ok (.iinc 1 1, 3) := by decide +kernel
theorem dX12_isSteady_65 : decode cX12_isSteady 65 = .ok (.goto (-63), 3) := by decide +kernel
theorem dX12_isSteady_68 : decode cX12_isSteady 68 = .ok (.iconst 1, 1) := by decide +kernel
theorem dX12_isSteady_69 : decode cX12_isSteady 69 = .ok (.ireturn, 1) := by decide +kernel
theorem dX12_pairsUp_0 : decode cX12_pairsUp 0 = .ok (.iconst 0, 1) := by decide +kernel
theorem dX12_pairsUp_1 : decode cX12_pairsUp 1 = .ok (.istore_n 2, 1) := by decide +kernel
theorem dX12_pairsUp_2 : decode cX12_pairsUp 2 = .ok (.iload_n 2, 1) := by decide +kernel
theorem dX12_pairsUp_3 : decode cX12_pairsUp 3 = .ok (.aload_n 0, 1) := by decide +kernel
theorem dX12_pairsUp_4 : decode cX12_pairsUp 4 = .ok (.getfield 7, 3) := by decide +kernel
theorem dX12_pairsUp_7 : decode cX12_pairsUp 7 = .ok (.iconst 3, 1) := by decide +kernel
theorem dX12_pairsUp_8 : decode cX12_pairsUp 8 = .ok (.iaload, 1) := by decide +kernel
theorem dX12_pairsUp_9 : decode cX12_pairsUp 9 = .ok (.if_icmp .ge 19, 3) := by decide +kernel
theorem dX12_pairsUp_12 : decode cX12_pairsUp 12 = .ok (.aload_n 0, 1) := by decide +kernel
theorem dX12_pairsUp_13 : decode cX12_pairsUp 13 = .ok (.getfield 38, 3) := by decide +kernel
theorem dX12_pairsUp_16 : decode cX12_pairsUp 16 = .ok (.iload_n 2, 1) := by decide +kernel
theorem dX12_pairsUp_17 : decode cX12_pairsUp 17 = .ok (.iaload, 1) := by decide +kernel
theorem dX12_pairsUp_18 : decode cX12_pairsUp 18 = .ok (.iconst (-1), 1) := by decide +kernel
theorem dX12_pairsUp_19 : decode cX12_pairsUp 19 = .ok (.if_icmp .eq 9, 3) := by decide +kernel
theorem dX12_pairsUp_22 : decode cX12_pairsUp 22 = .ok (.iinc 2 1, 3) := by decide +kernel
theorem dX12_pairsUp_25 : decode cX12_pairsUp 25 = .ok (.goto (-23), 3) := by decide +kernel
theorem dX12_pairsUp_28 : decode cX12_pairsUp 28 = .ok (.iload_n 2, 1) := by decide +kernel
theorem dX12_pairsUp_29 : decode cX12_pairsUp 29 = .ok (.aload_n 0, 1) := by decide +kernel
theorem dX12_pairsUp_30 : decode cX12_pairsUp 30 = .ok (.getfield 7, 3) := by decide +kernel
theorem dX12_pairsUp_33 : decode cX12_pairsUp 33 = .ok (.iconst 3, 1) := by decide +kernel
theorem dX12_pairsUp_34 : decode cX12_pairsUp 34 = .ok (.iaload, 1) := by decide +kernel
theorem dX12_pairsUp_35 : decode cX12_pairsUp 35 = .ok (.if_icmp .ne 54, 3) := by decide +kernel
theorem dX12_pairsUp_38 : decode cX12_pairsUp 38 = .ok (.aload_n 0, 1) := by decide +kernel
theorem dX12_pairsUp_39 : decode cX12_pairsUp 39 = .ok (.invokevirtual 348, 3) := by decide +kernel
theorem dX12_pairsUp_42 : decode cX12_pairsUp 42 = .ok (.ifCond .ne 4, 3) := by decide +kernel
theorem dX12_pairsUp_45 : decode cX12_pairsUp 45 = .ok (.return_, 1) := by decide +kernel
theorem dX12_pairsUp_46 : decode cX12_pairsUp 46 = .ok (.iconst 0, 1) := by decide +kernel
theorem dX12_pairsUp_47 : decode cX12_pairsUp 47 = .ok (.istore_n 3, 1) := by decide +kernel
theorem dX12_pairsUp_48 : decode cX12_pairsUp 48 = .ok (.iload_n 3, 1) := by decide +kernel
theorem dX12_pairsUp_49 : decode cX12_pairsUp 49 = .ok (.iload_n 2, 1) := by decide +kernel
theorem dX12_pairsUp_50 : decode cX12_pairsUp 50 = .ok (.if_icmp .ge 28, 3) := by decide +kernel
theorem dX12_pairsUp_53 : decode cX12_pairsUp 53 = .ok (.aload_n 0, 1) := by decide +kernel
theorem dX12_pairsUp_54 : decode cX12_pairsUp 54 = .ok (.getfield 351, 3) := by decide +kernel
theorem dX12_pairsUp_57 : decode cX12_pairsUp 57 = .ok (.ifCond .ne 21, 3) := by decide +kernel
theorem dX12_pairsUp_60 : decode cX12_pairsUp 60 = .ok (.aload_n 0, 1) := by decide +kernel
theorem dX12_pairsUp_61 : decode cX12_pairsUp 61 = .ok (.getfield 41, 3) := by decide +kernel
theorem dX12_pairsUp_64 : decode cX12_pairsUp 64 = .ok (.iload_n 3, 1) := by decide +kernel
theorem dX12_pairsUp_65 : decode cX12_pairsUp 65 = .ok (.aload_n 0, 1) := by decide +kernel
theorem dX12_pairsUp_66 : decode cX12_pairsUp 66 = .ok (.getfield 38, 3) := by decide +kernel
theorem dX12_pairsUp_69 : decode cX12_pairsUp 69 = .ok (.iload_n 3, 1) := by decide +kernel
theorem dX12_pairsUp_70 : decode cX12_pairsUp 70 = .ok (.iaload, 1) := by decide +kernel
theorem dX12_pairsUp_71 : decode cX12_pairsUp 71 = .ok (.iastore, 1) := by decide +kernel
theorem dX12_pairsUp_72 : decode cX12_pairsUp 72 = .ok (.iinc 3 1, 3) := by decide +kernel
theorem dX12_pairsUp_75 : decode cX12_pairsUp 75 = .ok (.goto (-27), 3) := by decide +kernel
theorem dX12_pairsUp_78 : decode cX12_pairsUp 78 = .ok (.aload_n 0, 1) := by decide +kernel
theorem dX12_pairsUp_79 : decode cX12_pairsUp 79 = .ok (.dup, 1) := by decide +kernel
theorem dX12_pairsUp_80 : decode cX12_pairsUp 80 = .ok (.getfield 351, 3) := by decide +kernel
theorem dX12_pairsUp_83 : decode cX12_pairsUp 83 = .ok (.iconst 1, 1) := by decide +kernel
theorem dX12_pairsUp_84 : decode cX12_pairsUp 84 = .ok (.iadd, 1) := by decide +kernel
theorem dX12_pairsUp_85 : decode cX12_pairsUp 85 = .ok (.putfield 351, 3) := by decide +kernel
theorem dX12_pairsUp_88 : decode cX12_pairsUp 88 = .ok (.return_, 1) := by decide +kernel
theorem dX12_pairsUp_89 : decode cX12_pairsUp 89 = .ok (.iload_n 1, 1) := by decide +kernel
theorem dX12_pairsUp_90 : decode cX12_pairsUp 90 = .ok (.ifCond .eq 15, 3) := by decide +kernel
theorem dX12_pairsUp_93 : decode cX12_pairsUp 93 = .ok (.aload_n 0, 1) := by decide +kernel
theorem dX12_pairsUp_94 : decode cX12_pairsUp 94 = .ok (.getfield 38, 3) := by decide +kernel
theorem dX12_pairsUp_97 : decode cX12_pairsUp 97 = .ok (.iload_n 2, 1) := by decide +kernel
theorem dX12_pairsUp_98 : decode cX12_pairsUp 98 = .ok (.iload_n 2, 1) := by decide +kernel
theorem dX12_pairsUp_99 : decode cX12_pairsUp 99 = .ok (.iastore, 1) := by decide +kernel
theorem dX12_pairsUp_100 : decode cX12_pairsUp 100 = .ok (.aload_n 0, 1) := by decide +kernel
theorem dX12_pairsUp_101 : decode cX12_pairsUp 101 = .ok (.iconst 0, 1) := by decide +kernel
theorem dX12_pairsUp_102 : decode cX12_pairsUp 102 = .ok (.invokevirtual 354, 3) := by decide +kernel
theorem dX12_pairsUp_105 : decode cX12_pairsUp 105 = .ok (.iload_n 2, 1) := by decide +kernel
theorem dX12_pairsUp_106 : decode cX12_pairsUp 106 = .ok (.iconst 1, 1) := by decide +kernel
theorem dX12_pairsUp_107 : decode cX12_pairsUp 107 = .ok (.iadd, 1) := by decide +kernel
theorem dX12_pairsUp_108 : decode cX12_pairsUp 108 = .ok (.istore_n 3, 1) := by decide +kernel
theorem dX12_pairsUp_109 : decode cX12_pairsUp 109 = .ok (.iload_n 3, 1) := by decide +kernel
theorem dX12_pairsUp_110 : decode cX12_pairsUp 110 = .ok (.aload_n 0, 1) := by decide +kernel
theorem dX12_pairsUp_111 : decode cX12_pairsUp 111 = .ok (.getfield 7, 3) := by decide +kernel
theorem dX12_pairsUp_114 : decode cX12_pairsUp 114 = .ok (.iconst 3, 1) := by decide +kernel
theorem dX12_pairsUp_115 : decode cX12_pairsUp 115 = .ok (.iaload, 1) := by decide +kernel
theorem dX12_pairsUp_116 : decode cX12_pairsUp 116 = .ok (.if_icmp .ge 48, 3) := by decide +kernel
theorem dX12_pairsUp_119 : decode cX12_pairsUp 119 = .ok (.aload_n 0, 1) := by decide +kernel
theorem dX12_pairsUp_120 : decode cX12_pairsUp 120 = .ok (.getfield 38, 3) := by decide +kernel
theorem dX12_pairsUp_123 : decode cX12_pairsUp 123 = .ok (.iload_n 3, 1) := by decide +kernel
theorem dX12_pairsUp_124 : decode cX12_pairsUp 124 = .ok (.iaload, 1) := by decide +kernel
theorem dX12_pairsUp_125 : decode cX12_pairsUp 125 = .ok (.iconst (-1), 1) := by decide +kernel
theorem dX12_pairsUp_126 : decode cX12_pairsUp 126 = .ok (.if_icmp .eq 6, 3) := by decide +kernel
theorem dX12_pairsUp_129 : decode cX12_pairsUp 129 = .ok (.goto 29, 3) := by decide +kernel
theorem dX12_pairsUp_132 : decode cX12_pairsUp 132 = .ok (.aload_n 0, 1) := by decide +kernel
theorem dX12_pairsUp_133 : decode cX12_pairsUp 133 = .ok (.getfield 38, 3) := by decide +kernel
theorem dX12_pairsUp_136 : decode cX12_pairsUp 136 = .ok (.iload_n 2, 1) := by decide +kernel
theorem dX12_pairsUp_137 : decode cX12_pairsUp 137 = .ok (.iload_n 3, 1) := by decide +kernel
theorem dX12_pairsUp_138 : decode cX12_pairsUp 138 = .ok (.iastore, 1) := by decide +kernel
theorem dX12_pairsUp_139 : decode cX12_pairsUp 139 = .ok (.aload_n 0, 1) := by decide +kernel
theorem dX12_pairsUp_140 : decode cX12_pairsUp 140 = .ok (.getfield 38, 3) := by decide +kernel
theorem dX12_pairsUp_143 : decode cX12_pairsUp 143 = .ok (.iload_n 3, 1) := by decide +kernel
theorem dX12_pairsUp_144 : decode cX12_pairsUp 144 = .ok (.iload_n 2, 1) := by decide +kernel
theorem dX12_pairsUp_145 : decode cX12_pairsUp 145 = .ok (.iastore, 1) := by decide +kernel
theorem dX12_pairsUp_146 : decode cX12_pairsUp 146 = .ok (.aload_n 0, 1) := by decide +kernel
theorem dX12_pairsUp_147 : decode cX12_pairsUp 147 = .ok (.iload_n 1, 1) := by decide +kernel
theorem dX12_pairsUp_148 : decode cX12_pairsUp 148 = .ok (.invokevirtual 354, 3) := by decide +kernel
theorem dX12_pairsUp_151 : decode cX12_pairsUp 151 = .ok (.aload_n 0, 1) := by decide +kernel
theorem dX12_pairsUp_152 : decode cX12_pairsUp 152 = .ok (.getfield 38, 3) := by decide +kernel
theorem dX12_pairsUp_155 : decode cX12_pairsUp 155 = .ok (.iload_n 3, 1) := by decide +kernel
theorem dX12_pairsUp_156 : decode cX12_pairsUp 156 = .ok (.iconst (-1), 1) := by decide +kernel
theorem dX12_pairsUp_157 : decode cX12_pairsUp 157 = .ok (.iastore, 1) := by decide +kernel
theorem dX12_pairsUp_158 : decode cX12_pairsUp 158 = .ok (.iinc 3 1, 3) := by decide +kernel
theorem dX12_pairsUp_161 : decode cX12_pairsUp 161 = .ok (.goto (-52), 3) := by decide +kernel
theorem dX12_pairsUp_164 : decode cX12_pairsUp 164 = .ok (.aload_n 0, 1) := by decide +kernel
theorem dX12_pairsUp_165 : decode cX12_pairsUp 165 = .ok (.getfield 38, 3) := by decide +kernel
theorem dX12_pairsUp_168 : decode cX12_pairsUp 168 = .ok (.iload_n 2, 1) := by decide +kernel
theorem dX12_pairsUp_169 : decode cX12_pairsUp 169 = .ok (.iconst (-1), 1) := by decide +kernel
theorem dX12_pairsUp_170 : decode cX12_pairsUp 170 = .ok (.iastore, 1) := by decide +kernel
theorem dX12_pairsUp_171 : decode cX12_pairsUp 171 = .ok (.return_, 1) := by decide +kernel
theorem dX12_steady_0 : decode cX12_steady 0 = .ok (.aload_n 0, 1) := by decide +kernel
theorem dX12_steady_1 : decode cX12_steady 1 = .ok (.iload_n 1, 1) := by decide +kernel
theorem dX12_steady_2 : decode cX12_steady 2 = .ok (.iconst (-1), 1) := by decide +kernel
theorem dX12_steady_3 : decode cX12_steady 3 = .ok (.if_icmp .eq 15, 3) := by decide +kernel
theorem dX12_steady_6 : decode cX12_steady 6 = .ok (.aload_n 0, 1) := by decide +kernel
theorem dX12_steady_7 : decode cX12_steady 7 = .ok (.iload_n 1, 1) := by decide +kernel
theorem dX12_steady_8 : decode cX12_steady 8 = .ok (.invokevirtual 293, 3) := by decide +kernel
theorem dX12_steady_11 : decode cX12_steady 11 = .ok (.ifCond .ne 7, 3) := by decide +kernel
theorem dX12_steady_14 : decode cX12_steady 14 = .ok (.iconst 1, 1) := by decide +kernel
theorem dX12_steady_15 : decode cX12_steady 15 = .ok (.goto 4, 3) := by decide +kernel
theorem dX12_steady_18 : decode cX12_steady 18 = .ok (.iconst 0, 1) := by decide +kernel
theorem dX12_steady_19 : decode cX12_steady 19 = .ok (.putfield 51, 3) := by decide +kernel
theorem dX12_steady_22 : decode cX12_steady 22 = .ok (.aload_n 0, 1) := by decide +kernel
theorem dX12_steady_23 : decode cX12_steady 23 = .ok (.getfield 51, 3) := by decide +kernel
theorem dX12_steady_26 : decode cX12_steady 26 = .ok (.ifCond .le 5, 3) := by decide +kernel
theorem dX12_steady_29 : decode cX12_steady 29 = .ok (.iconst 0, 1) := by decide +kernel
theorem dX12_steady_30 : decode cX12_steady 30 = .ok (.ireturn, 1) := by decide +kernel
theorem dX12_steady_31 : decode cX12_steady 31 = .ok (.iconst 0, 1) := by decide +kernel
theorem dX12_steady_32 : decode cX12_steady 32 = .ok (.istore_n 2, 1) := by decide +kernel
theorem dX12_steady_33 : decode cX12_steady 33 = .ok (.iload_n 2, 1) := by decide +kernel
theorem dX12_steady_34 : decode cX12_steady 34 = .ok (.bipush 8, 2) := by decide +kernel
theorem dX12_steady_36 : decode cX12_steady 36 = .ok (.if_icmp .ge 16, 3) := by decide +kernel
theorem dX12_steady_39 : decode cX12_steady 39 = .ok (.aload_n 0, 1) := by decide +kernel
theorem dX12_steady_40 : decode cX12_steady 40 = .ok (.getfield 38, 3) := by decide +kernel
theorem dX12_steady_43 : decode cX12_steady 43 = .ok (.iload_n 2, 1) := by decide +kernel
theorem dX12_steady_44 : decode cX12_steady 44 = .ok (.iconst (-1), 1) := by decide +kernel
theorem dX12_steady_45 : decode cX12_steady 45 = .ok (.iastore, 1) := by decide +kernel
theorem dX12_steady_46 : decode cX12_steady 46 = .ok (.iinc 2 1, 3) := by decide +kernel
theorem dX12_steady_49 : decode cX12_steady 49 = .ok (.goto (-16), 3) := by decide +kernel
theorem dX12_steady_52 : decode cX12_steady 52 = .ok (.aload_n 0, 1) := by decide +kernel
theorem dX12_steady_53 : decode cX12_steady 53 = .ok (.iconst 0, 1) := by decide +kernel
theorem dX12_steady_54 : decode cX12_steady 54 = .ok (.putfield 351, 3) := by decide +kernel
theorem dX12_steady_57 : decode cX12_steady 57 = .ok (.aload_n 0, 1) := by decide +kernel
theorem dX12_steady_58 : decode cX12_steady 58 = .ok (.aload_n 0, 1) := by decide +kernel
theorem dX12_steady_59 : decode cX12_steady 59 = .ok (.getfield 7, 3) := by decide +kernel
theorem dX12_steady_62 : decode cX12_steady 62 = .ok (.iconst 3, 1) := by decide +kernel
theorem dX12_steady_63 : decode cX12_steady 63 = .ok (.iaload, 1) := by decide +kernel
theorem dX12_steady_64 : decode cX12_steady 64 = .ok (.iconst 2, 1) := by decide +kernel
theorem dX12_steady_65 : decode cX12_steady 65 = .ok (.irem, 1) := by decide +kernel
theorem dX12_steady_66 : decode cX12_steady 66 = .ok (.iconst 1, 1) := by decide +kernel
theorem dX12_steady_67 : decode cX12_steady 67 = .ok (.if_icmp .ne 7, 3) := by decide +kernel
theorem dX12_steady_70 : decode cX12_steady 70 = .ok (.iconst 1, 1) := by decide +kernel
theorem dX12_steady_71 : decode cX12_steady 71 = .ok (.goto 4, 3) := by decide +kernel
theorem dX12_steady_74 : decode cX12_steady 74 = .ok (.iconst 0, 1) := by decide +kernel
theorem dX12_steady_75 : decode cX12_steady 75 = .ok (.invokevirtual 354, 3) := by decide +kernel
theorem dX12_steady_78 : decode cX12_steady 78 = .ok (.iload_n 1, 1) := by decide +kernel
theorem dX12_steady_79 : decode cX12_steady 79 = .ok (.iconst (-1), 1) := by decide +kernel
theorem dX12_steady_80 : decode cX12_steady 80 = .ok (.if_icmp .ne 10, 3) := by decide +kernel
theorem dX12_steady_83 : decode cX12_steady 83 = .ok (.aload_n 0, 1) := by decide +kernel
theorem dX12_steady_84 : decode cX12_steady 84 = .ok (.getfield 351, 3) := by decide +kernel
theorem dX12_steady_87 : decode cX12_steady 87 = .ok (.goto 20, 3) := by decide +kernel
theorem dX12_steady_90 : decode cX12_steady 90 = .ok (.aload_n 0, 1) := by decide +kernel
theorem dX12_steady_91 : decode cX12_steady 91 = .ok (.getfield 351, 3) := by decide +kernel
theorem dX12_steady_94 : decode cX12_steady 94 = .ok (.ifCond .ne 7, 3) := by decide +kernel
theorem dX12_steady_97 : decode cX12_steady 97 = .ok (.iconst (-1), 1) := by decide +kernel
theorem dX12_steady_98 : decode cX12_steady 98 = .ok (.goto 9, 3) := by decide +kernel
theorem dX12_steady_101 : decode cX12_steady 101 = .ok (.aload_n 0, 1) := by decide +kernel
theorem dX12_steady_102 : decode cX12_steady 102 = .ok (.getfield 41, 3) := by decide +kernel
theorem dX12_steady_105 : decode cX12_steady 105 = .ok (.iload_n 1, 1) := by decide +kernel
theorem dX12_steady_106 : decode cX12_steady 106 = .ok (.iaload, 1) := by decide +kernel
theorem dX12_steady_107 : decode cX12_steady 107 = .ok (.ireturn, 1) := by decide +kernel
theorem dX12_mayWed_0 : decode cX12_mayWed 0 = .ok (.aload_n 0, 1) := by decide +kernel
theorem dX12_mayWed_1 : decode cX12_mayWed 1 = .ok (.iload_n 1, 1) := by decide +kernel
theorem dX12_mayWed_2 : decode cX12_mayWed 2 = .ok (.invokevirtual 121, 3) := by decide +kernel
theorem dX12_mayWed_5 : decode cX12_mayWed 5 = .ok (.iconst (-1), 1) := by decide +kernel
theorem dX12_mayWed_6 : decode cX12_mayWed 6 = .ok (.if_icmp .ne 42, 3) := by decide +kernel
theorem dX12_mayWed_9 : decode cX12_mayWed 9 = .ok (.aload_n 0, 1) := by decide +kernel
theorem dX12_mayWed_10 : decode cX12_mayWed 10 = .ok (.iload_n 2, 1) := by decide +kernel
theorem dX12_mayWed_11 : decode cX12_mayWed 11 = .ok (.invokevirtual 121, 3) := by decide +kernel
theorem dX12_mayWed_14 : decode cX12_mayWed 14 = .ok (.iconst (-1), 1) := by decide +kernel
theorem dX12_mayWed_15 : decode cX12_mayWed 15 = .ok (.if_icmp .ne 33, 3) := by decide +kernel
theorem dX12_mayWed_18 : decode cX12_mayWed 18 = .ok (.aload_n 0, 1) := by decide +kernel
theorem dX12_mayWed_19 : decode cX12_mayWed 19 = .ok (.iload_n 1, 1) := by decide +kernel
theorem dX12_mayWed_20 : decode cX12_mayWed 20 = .ok (.iconst 1, 1) := by decide +kernel
theorem dX12_mayWed_21 : decode cX12_mayWed 21 = .ok (.invokevirtual 62, 3) := by decide +kernel
theorem dX12_mayWed_24 : decode cX12_mayWed 24 = .ok (.iload_n 2, 1) := by decide +kernel
theorem dX12_mayWed_25 : decode cX12_mayWed 25 = .ok (.invokestatic 65, 3) := by decide +kernel
theorem dX12_mayWed_28 : decode cX12_mayWed 28 = .ok (.ifCond .ne 16, 3) := by decide +kernel
theorem dX12_mayWed_31 : decode cX12_mayWed 31 = .ok (.aload_n 0, 1) := by decide +kernel
theorem dX12_mayWed_32 : decode cX12_mayWed 32 = .ok (.iload_n 2, 1) := by decide +kernel
theorem dX12_mayWed_33 : decode cX12_mayWed 33 = .ok (.iconst 1, 1) := by decide +kernel
theorem dX12_mayWed_34 : decode cX12_mayWed 34 = .ok (.invokevirtual 62, 3) := by decide +kernel
theorem dX12_mayWed_37 : decode cX12_mayWed 37 = .ok (.iload_n 1, 1) := by decide +kernel
theorem dX12_mayWed_38 : decode cX12_mayWed 38 = .ok (.invokestatic 65, 3) := by decide +kernel
theorem dX12_mayWed_41 : decode cX12_mayWed 41 = .ok (.ifCond .eq 7, 3) := by decide +kernel
theorem dX12_mayWed_44 : decode cX12_mayWed 44 = .ok (.iconst 1, 1) := by decide +kernel
theorem dX12_mayWed_45 : decode cX12_mayWed 45 = .ok (.goto 4, 3) := by decide +kernel
theorem dX12_mayWed_48 : decode cX12_mayWed 48 = .ok (.iconst 0, 1) := by decide +kernel
theorem dX12_mayWed_49 : decode cX12_mayWed 49 = .ok (.ireturn, 1) := by decide +kernel
theorem dX12_weddings_0 : decode cX12_weddings 0 = .ok (.aload_n 0, 1) := by decide +kernel
theorem dX12_weddings_1 : decode cX12_weddings 1 = .ok (.iconst 0, 1) := by decide +kernel
theorem dX12_weddings_2 : decode cX12_weddings 2 = .ok (.putfield 51, 3) := by decide +kernel
theorem dX12_weddings_5 : decode cX12_weddings 5 = .ok (.iconst 1, 1) := by decide +kernel
theorem dX12_weddings_6 : decode cX12_weddings 6 = .ok (.aload_n 0, 1) := by decide +kernel
theorem dX12_weddings_7 : decode cX12_weddings 7 = .ok (.getfield 7, 3) := by decide +kernel
theorem dX12_weddings_10 : decode cX12_weddings 10 = .ok (.iconst 3, 1) := by decide +kernel
theorem dX12_weddings_11 : decode cX12_weddings 11 = .ok (.iaload, 1) := by decide +kernel
theorem dX12_weddings_12 : decode cX12_weddings 12 = .ok (.ishl, 1) := by decide +kernel
theorem dX12_weddings_13 : decode cX12_weddings 13 = .ok (.iconst 1, 1) := by decide +kernel
theorem dX12_weddings_14 : decode cX12_weddings 14 = .ok (.isub, 1) := by decide +kernel
theorem dX12_weddings_15 : decode cX12_weddings 15 = .ok (.istore_n 1, 1) := by decide +kernel
theorem dX12_weddings_16 : decode cX12_weddings 16 = .ok (.aload_n 0, 1) := by decide +kernel
theorem dX12_weddings_17 : decode cX12_weddings 17 = .ok (.getfield 48, 3) := by decide +kernel
theorem dX12_weddings_20 : decode cX12_weddings 20 = .ok (.iconst 0, 1) := by decide +kernel
theorem dX12_weddings_21 : decode cX12_weddings 21 = .ok (.iconst 0, 1) := by decide +kernel
theorem dX12_weddings_22 : decode cX12_weddings 22 = .ok (.iastore, 1) := by decide +kernel
theorem dX12_weddings_23 : decode cX12_weddings 23 = .ok (.iconst 1, 1) := by decide +kernel
theorem dX12_weddings_24 : decode cX12_weddings 24 = .ok (.istore_n 2, 1) := by decide +kernel
theorem dX12_weddings_25 : decode cX12_weddings 25 = .ok (.iload_n 2, 1) := by decide +kernel
