theorem dX12_weddings_26 : decode cX12_weddings 26 = .ok (.iload_n 1, 1) := by decide +kernel
theorem dX12_weddings_27 : decode cX12_weddings 27 = .ok (.if_icmp .gt 115, 3) := by decide +kernel
theorem dX12_weddings_30 : decode cX12_weddings 30 = .ok (.iconst 0, 1) := by decide +kernel
theorem dX12_weddings_31 : decode cX12_weddings 31 = .ok (.istore_n 3, 1) := by decide +kernel
theorem dX12_weddings_32 : decode cX12_weddings 32 = .ok (.iload_n 2, 1) := by decide +kernel
theorem dX12_weddings_33 : decode cX12_weddings 33 = .ok (.iload_n 3, 1) := by decide +kernel
theorem dX12_weddings_34 : decode cX12_weddings 34 = .ok (.invokestatic 65, 3) := by decide +kernel
theorem dX12_weddings_37 : decode cX12_weddings 37 = .ok (.ifCond .ne 9, 3) := by decide +kernel
theorem dX12_weddings_40 : decode cX12_weddings 40 = .ok (.iinc 3 1, 3) := by decide +kernel
theorem dX12_weddings_43 : decode cX12_weddings 43 = .ok (.goto (-11), 3) := by decide +kernel
theorem dX12_weddings_46 : decode cX12_weddings 46 = .ok (.iload_n 2, 1) := by decide +kernel
theorem dX12_weddings_47 : decode cX12_weddings 47 = .ok (.iconst 1, 1) := by decide +kernel
theorem dX12_weddings_48 : decode cX12_weddings 48 = .ok (.iload_n 3, 1) := by decide +kernel
theorem dX12_weddings_49 : decode cX12_weddings 49 = .ok (.ishl, 1) := by decide +kernel
theorem dX12_weddings_50 : decode cX12_weddings 50 = .ok (.iconst (-1), 1) := by decide +kernel
theorem dX12_weddings_51 : decode cX12_weddings 51 = .ok (.ixor, 1) := by decide +kernel
theorem dX12_weddings_52 : decode cX12_weddings 52 = .ok (.iand, 1) := by decide +kernel
theorem dX12_weddings_53 : decode cX12_weddings 53 = .ok (.istore 4, 2) := by decide +kernel
theorem dX12_weddings_55 : decode cX12_weddings 55 = .ok (.aload_n 0, 1) := by decide +kernel
theorem dX12_weddings_56 : decode cX12_weddings 56 = .ok (.getfield 48, 3) := by decide +kernel
theorem dX12_weddings_59 : decode cX12_weddings 59 = .ok (.iload 4, 2) := by decide +kernel
theorem dX12_weddings_61 : decode cX12_weddings 61 = .ok (.iaload, 1) := by decide +kernel
theorem dX12_weddings_62 : decode cX12_weddings 62 = .ok (.istore 5, 2) := by decide +kernel
theorem dX12_weddings_64 : decode cX12_weddings 64 = .ok (.iload_n 3, 1) := by decide +kernel
theorem dX12_weddings_65 : decode cX12_weddings 65 = .ok (.iconst 1, 1) := by decide +kernel
theorem dX12_weddings_66 : decode cX12_weddings 66 = .ok (.iadd, 1) := by decide +kernel
theorem dX12_weddings_67 : decode cX12_weddings 67 = .ok (.istore 6, 2) := by decide +kernel
theorem dX12_weddings_69 : decode cX12_weddings 69 = .ok (.iload 6, 2) := by decide +kernel
theorem dX12_weddings_71 : decode cX12_weddings 71 = .ok (.aload_n 0, 1) := by decide +kernel
theorem dX12_weddings_72 : decode cX12_weddings 72 = .ok (.getfield 7, 3) := by decide +kernel
theorem dX12_weddings_75 : decode cX12_weddings 75 = .ok (.iconst 3, 1) := by decide +kernel
theorem dX12_weddings_76 : decode cX12_weddings 76 = .ok (.iaload, 1) := by decide +kernel
theorem dX12_weddings_77 : decode cX12_weddings 77 = .ok (.if_icmp .ge 51, 3) := by decide +kernel
theorem dX12_weddings_80 : decode cX12_weddings 80 = .ok (.iload_n 2, 1) := by decide +kernel
theorem dX12_weddings_81 : decode cX12_weddings 81 = .ok (.iload 6, 2) := by decide +kernel
theorem dX12_weddings_83 : decode cX12_weddings 83 = .ok (.invokestatic 65, 3) := by decide +kernel
theorem dX12_weddings_86 : decode cX12_weddings 86 = .ok (.ifCond .eq 36, 3) := by decide +kernel
theorem dX12_weddings_89 : decode cX12_weddings 89 = .ok (.aload_n 0, 1) := by decide +kernel
theorem dX12_weddings_90 : decode cX12_weddings 90 = .ok (.iload_n 3, 1) := by decide +kernel
theorem dX12_weddings_91 : decode cX12_weddings 91 = .ok (.iload 6, 2) := by decide +kernel
theorem dX12_weddings_93 : decode cX12_weddings 93 = .ok (.invokevirtual 358, 3) := by decide +kernel
theorem dX12_weddings_96 : decode cX12_weddings 96 = .ok (.ifCond .eq 26, 3) := by decide +kernel
theorem dX12_weddings_99 : decode cX12_weddings 99 = .ok (.iload 5, 2) := by decide +kernel
theorem dX12_weddings_101 : decode cX12_weddings 101 = .ok (.iconst 1, 1) := by decide +kernel
theorem dX12_weddings_102 : decode cX12_weddings 102 = .ok (.aload_n 0, 1) := by decide +kernel
theorem dX12_weddings_103 : decode cX12_weddings 103 = .ok (.getfield 48, 3) := by decide +kernel
theorem dX12_weddings_106 : decode cX12_weddings 106 = .ok (.iload 4, 2) := by decide +kernel
theorem dX12_weddings_108 : decode cX12_weddings 108 = .ok (.iconst 1, 1) := by decide +kernel
theorem dX12_weddings_109 : decode cX12_weddings 109 = .ok (.iload 6, 2) := by decide +kernel
theorem dX12_weddings_111 : decode cX12_weddings 111 = .ok (.ishl, 1) := by decide +kernel
theorem dX12_weddings_112 : decode cX12_weddings 112 = .ok (.iconst (-1), 1) := by decide +kernel
theorem dX12_weddings_113 : decode cX12_weddings 113 = .ok (.ixor, 1) := by decide +kernel
theorem dX12_weddings_114 : decode cX12_weddings 114 = .ok (.iand, 1) := by decide +kernel
theorem dX12_weddings_115 : decode cX12_weddings 115 = .ok (.iaload, 1) := by decide +kernel
theorem dX12_weddings_116 : decode cX12_weddings 116 = .ok (.iadd, 1) := by decide +kernel
theorem dX12_weddings_117 : decode cX12_weddings 117 = .ok (.invokestatic 266, 3) := by decide +kernel
theorem dX12_weddings_120 : decode cX12_weddings 120 = .ok (.istore 5, 2) := by decide +kernel
theorem dX12_weddings_122 : decode cX12_weddings 122 = .ok (.iinc 6 1, 3) := by decide +kernel
theorem dX12_weddings_125 : decode cX12_weddings 125 = .ok (.goto (-56), 3) := by decide +kernel
theorem dX12_weddings_128 : decode cX12_weddings 128 = .ok (.aload_n 0, 1) := by decide +kernel
theorem dX12_weddings_129 : decode cX12_weddings 129 = .ok (.getfield 48, 3) := by decide +kernel
theorem dX12_weddings_132 : decode cX12_weddings 132 = .ok (.iload_n 2, 1) := by decide +kernel
theorem dX12_weddings_133 : decode cX12_weddings 133 = .ok (.iload 5, 2) := by decide +kernel
theorem dX12_weddings_135 : decode cX12_weddings 135 = .ok (.iastore, 1) := by decide +kernel
theorem dX12_weddings_136 : decode cX12_weddings 136 = .ok (.iinc 2 1, 3) := by decide +kernel
theorem dX12_weddings_139 : decode cX12_weddings 139 = .ok (.goto (-114), 3) := by decide +kernel
theorem dX12_weddings_142 : decode cX12_weddings 142 = .ok (.aload_n 0, 1) := by decide +kernel
theorem dX12_weddings_143 : decode cX12_weddings 143 = .ok (.getfield 48, 3) := by decide +kernel
theorem dX12_weddings_146 : decode cX12_weddings 146 = .ok (.iload_n 1, 1) := by decide +kernel
theorem dX12_weddings_147 : decode cX12_weddings 147 = .ok (.iaload, 1) := by decide +kernel
theorem dX12_weddings_148 : decode cX12_weddings 148 = .ok (.ireturn, 1) := by decide +kernel
theorem dX12_told__0 : decode cX12_told_ 0 = .ok (.aload_n 0, 1) := by decide +kernel
theorem dX12_told__1 : decode cX12_told_ 1 = .ok (.getfield 76, 3) := by decide +kernel
theorem dX12_told__4 : decode cX12_told_ 4 = .ok (.istore_n 1, 1) := by decide +kernel
theorem dX12_told__5 : decode cX12_told_ 5 = .ok (.aload_n 0, 1) := by decide +kernel
theorem dX12_told__6 : decode cX12_told_ 6 = .ok (.iconst 0, 1) := by decide +kernel
theorem dX12_told__7 : decode cX12_told_ 7 = .ok (.putfield 76, 3) := by decide +kernel
theorem dX12_told__10 : decode cX12_told_ 10 = .ok (.iload_n 1, 1) := by decide +kernel
theorem dX12_told__11 : decode cX12_told_ 11 = .ok (.iconst 3, 1) := by decide +kernel
theorem dX12_told__12 : decode cX12_told_ 12 = .ok (.irem, 1) := by decide +kernel
theorem dX12_told__13 : decode cX12_told_ 13 = .ok (.ifCond .ne 13, 3) := by decide +kernel
theorem dX12_told__16 : decode cX12_told_ 16 = .ok (.iload_n 1, 1) := by decide +kernel
theorem dX12_told__17 : decode cX12_told_ 17 = .ok (.bipush 36, 2) := by decide +kernel
theorem dX12_told__19 : decode cX12_told_ 19 = .ok (.if_icmp .gt 7, 3) := by decide +kernel
theorem dX12_told__22 : decode cX12_told_ 22 = .ok (.iconst 1, 1) := by decide +kernel
theorem dX12_told__23 : decode cX12_told_ 23 = .ok (.goto 4, 3) := by decide +kernel
theorem dX12_told__26 : decode cX12_told_ 26 = .ok (.iconst 0, 1) := by decide +kernel
theorem dX12_told__27 : decode cX12_told_ 27 = .ok (.istore_n 2, 1) := by decide +kernel
theorem dX12_told__28 : decode cX12_told_ 28 = .ok (.iconst 0, 1) := by decide +kernel
theorem dX12_told__29 : decode cX12_told_ 29 = .ok (.istore_n 3, 1) := by decide +kernel
theorem dX12_told__30 : decode cX12_told_ 30 = .ok (.iload_n 3, 1) := by decide +kernel
theorem dX12_told__31 : decode cX12_told_ 31 = .ok (.iload_n 1, 1) := by decide +kernel
theorem dX12_told__32 : decode cX12_told_ 32 = .ok (.if_icmp .ge 53, 3) := by decide +kernel
theorem dX12_told__35 : decode cX12_told_ 35 = .ok (.iload_n 2, 1) := by decide +kernel
theorem dX12_told__36 : decode cX12_told_ 36 = .ok (.ifCond .eq 49, 3) := by decide +kernel
theorem dX12_told__39 : decode cX12_told_ 39 = .ok (.aload_n 0, 1) := by decide +kernel
theorem dX12_told__40 : decode cX12_told_ 40 = .ok (.getfield 22, 3) := by decide +kernel
theorem dX12_told__43 : decode cX12_told_ 43 = .ok (.iload_n 3, 1) := by decide +kernel
theorem dX12_told__44 : decode cX12_told_ 44 = .ok (.iaload, 1) := by decide +kernel
theorem dX12_told__45 : decode cX12_told_ 45 = .ok (.aload_n 0, 1) := by decide +kernel
theorem dX12_told__46 : decode cX12_told_ 46 = .ok (.getfield 22, 3) := by decide +kernel
theorem dX12_told__49 : decode cX12_told_ 49 = .ok (.iload_n 3, 1) := by decide +kernel
theorem dX12_told__50 : decode cX12_told_ 50 = .ok (.iconst 1, 1) := by decide +kernel
theorem dX12_told__51 : decode cX12_told_ 51 = .ok (.iadd, 1) := by decide +kernel
theorem dX12_told__52 : decode cX12_told_ 52 = .ok (.iaload, 1) := by decide +kernel
theorem dX12_told__53 : decode cX12_told_ 53 = .ok (.if_icmp .gt 24, 3) := by decide +kernel
theorem dX12_told__56 : decode cX12_told_ 56 = .ok (.aload_n 0, 1) := by decide +kernel
theorem dX12_told__57 : decode cX12_told_ 57 = .ok (.getfield 22, 3) := by decide +kernel
theorem dX12_told__60 : decode cX12_told_ 60 = .ok (.iload_n 3, 1) := by decide +kernel
theorem dX12_told__61 : decode cX12_told_ 61 = .ok (.iconst 1, 1) := by decide +kernel
theorem dX12_told__62 : decode cX12_told_ 62 = .ok (.iadd, 1) := by decide +kernel
theorem dX12_told__63 : decode cX12_told_ 63 = .ok (.iaload, 1) := by decide +kernel
theorem dX12_told__64 : decode cX12_told_ 64 = .ok (.aload_n 0, 1) := by decide +kernel
theorem dX12_told__65 : decode cX12_told_ 65 = .ok (.getfield 7, 3) := by decide +kernel
theorem dX12_told__68 : decode cX12_told_ 68 = .ok (.iconst 3, 1) := by decide +kernel
theorem dX12_told__69 : decode cX12_told_ 69 = .ok (.iaload, 1) := by decide +kernel
theorem dX12_told__70 : decode cX12_told_ 70 = .ok (.if_icmp .ge 7, 3) := by decide +kernel
theorem dX12_told__73 : decode cX12_told_ 73 = .ok (.iconst 1, 1) := by decide +kernel
theorem dX12_told__74 : decode cX12_told_ 74 = .ok (.goto 4, 3) := by decide +kernel
theorem dX12_told__77 : decode cX12_told_ 77 = .ok (.iconst 0, 1) := by decide +kernel
theorem dX12_told__78 : decode cX12_told_ 78 = .ok (.istore_n 2, 1) := by decide +kernel
theorem dX12_told__79 : decode cX12_told_ 79 = .ok (.iinc 3 3, 3) := by decide +kernel
theorem dX12_told__82 : decode cX12_told_ 82 = .ok (.goto (-52), 3) := by decide +kernel
theorem dX12_told__85 : decode cX12_told_ 85 = .ok (.iload_n 2, 1) := by decide +kernel
theorem dX12_told__86 : decode cX12_told_ 86 = .ok (.ifCond .ne 5, 3) := by decide +kernel
theorem dX12_told__89 : decode cX12_told_ 89 = .ok (.iconst (-1), 1) := by decide +kernel
theorem dX12_told__90 : decode cX12_told_ 90 = .ok (.ireturn, 1) := by decide +kernel
theorem dX12_told__91 : decode cX12_told_ 91 = .ok (.iconst 0, 1) := by decide +kernel
theorem dX12_told__92 : decode cX12_told_ 92 = .ok (.istore_n 3, 1) := by decide +kernel
theorem dX12_told__93 : decode cX12_told_ 93 = .ok (.iconst 0, 1) := by decide +kernel
theorem dX12_told__94 : decode cX12_told_ 94 = .ok (.istore 4, 2) := by decide +kernel
theorem dX12_told__96 : decode cX12_told_ 96 = .ok (.iload 4, 2) := by decide +kernel
theorem dX12_told__98 : decode cX12_told_ 98 = .ok (.iconst 1, 1) := by decide +kernel
theorem dX12_told__99 : decode cX12_told_ 99 = .ok (.aload_n 0, 1) := by decide +kernel
theorem dX12_told__100 : decode cX12_told_ 100 = .ok (.getfield 7, 3) := by decide +kernel
theorem dX12_told__103 : decode cX12_told_ 103 = .ok (.iconst 3, 1) := by decide +kernel
theorem dX12_told__104 : decode cX12_told_ 104 = .ok (.iaload, 1) := by decide +kernel
theorem dX12_told__105 : decode cX12_told_ 105 = .ok (.ishl, 1) := by decide +kernel
theorem dX12_told__106 : decode cX12_told_ 106 = .ok (.if_icmp .ge 130, 3) := by decide +kernel
theorem dX12_told__109 : decode cX12_told_ 109 = .ok (.aload_n 0, 1) := by decide +kernel
theorem dX12_told__110 : decode cX12_told_ 110 = .ok (.getfield 44, 3) := by decide +kernel
theorem dX12_told__113 : decode cX12_told_ 113 = .ok (.iload 4, 2) := by decide +kernel
theorem dX12_told__115 : decode cX12_told_ 115 = .ok (.iconst 1, 1) := by decide +kernel
theorem dX12_told__116 : decode cX12_told_ 116 = .ok (.bastore, 1) := by decide +kernel
theorem dX12_told__117 : decode cX12_told_ 117 = .ok (.iconst 0, 1) := by decide +kernel
theorem dX12_told__118 : decode cX12_told_ 118 = .ok (.istore 5, 2) := by decide +kernel
theorem dX12_told__120 : decode cX12_told_ 120 = .ok (.iload 5, 2) := by decide +kernel
theorem dX12_told__122 : decode cX12_told_ 122 = .ok (.iload_n 1, 1) := by decide +kernel
theorem dX12_told__123 : decode cX12_told_ 123 = .ok (.if_icmp .ge 89, 3) := by decide +kernel
theorem dX12_told__126 : decode cX12_told_ 126 = .ok (.aload_n 0, 1) := by decide +kernel
theorem dX12_told__127 : decode cX12_told_ 127 = .ok (.getfield 44, 3) := by decide +kernel
theorem dX12_told__130 : decode cX12_told_ 130 = .ok (.iload 4, 2) := by decide +kernel
theorem dX12_told__132 : decode cX12_told_ 132 = .ok (.baload, 1) := by decide +kernel
theorem dX12_told__133 : decode cX12_told_ 133 = .ok (.ifCond .eq 79, 3) := by decide +kernel
theorem dX12_told__136 : decode cX12_told_ 136 = .ok (.iconst 0, 1) := by decide +kernel
theorem dX12_told__137 : decode cX12_told_ 137 = .ok (.istore 6, 2) := by decide +kernel
theorem dX12_told__139 : decode cX12_told_ 139 = .ok (.aload_n 0, 1) := by decide +kernel
theorem dX12_told__140 : decode cX12_told_ 140 = .ok (.getfield 22, 3) := by decide +kernel
theorem dX12_told__143 : decode cX12_told_ 143 = .ok (.iload 5, 2) := by decide +kernel
theorem dX12_told__145 : decode cX12_told_ 145 = .ok (.iaload, 1) := by decide +kernel
theorem dX12_told__146 : decode cX12_told_ 146 = .ok (.istore 7, 2) := by decide +kernel
theorem dX12_told__148 : decode cX12_told_ 148 = .ok (.iload 7, 2) := by decide +kernel
theorem dX12_told__150 : decode cX12_told_ 150 = .ok (.aload_n 0, 1) := by decide +kernel
theorem dX12_told__151 : decode cX12_told_ 151 = .ok (.getfield 22, 3) := by decide +kernel
theorem dX12_told__154 : decode cX12_told_ 154 = .ok (.iload 5, 2) := by decide +kernel
theorem dX12_told__156 : decode cX12_told_ 156 = .ok (.iconst 1, 1) := by decide +kernel
theorem dX12_told__157 : decode cX12_told_ 157 = .ok (.iadd, 1) := by decide +kernel
theorem dX12_told__158 : decode cX12_told_ 158 = .ok (.iaload, 1) := by decide +kernel
theorem dX12_told__159 : decode cX12_told_ 159 = .ok (.if_icmp .gt 21, 3) := by decide +kernel
theorem dX12_told__162 : decode cX12_told_ 162 = .ok (.iload 6, 2) := by decide +kernel
theorem dX12_told__164 : decode cX12_told_ 164 = .ok (.iload 4, 2) := by decide +kernel
theorem dX12_told__166 : decode cX12_told_ 166 = .ok (.iload 7, 2) := by decide +kernel
theorem dX12_told__168 : decode cX12_told_ 168 = .ok (.ishr, 1) := by decide +kernel
theorem dX12_told__169 : decode cX12_told_ 169 = .ok (.iconst 1, 1) := by decide +kernel
theorem dX12_told__170 : decode cX12_told_ 170 = .ok (.iand, 1) := by decide +kernel
theorem dX12_told__171 : decode cX12_told_ 171 = .ok (.iadd, 1) := by decide +kernel
theorem dX12_told__172 : decode cX12_told_ 172 = .ok (.istore 6, 2) := by decide +kernel
theorem dX12_told__174 : decode cX12_told_ 174 = .ok (.iinc 7 1, 3) := by decide +kernel
theorem dX12_told__177 : decode cX12_told_ 177 = .ok (.goto (-29), 3) := by decide +kernel
theorem dX12_told__180 : decode cX12_told_ 180 = .ok (.aload_n 0, 1) := by decide +kernel
theorem dX12_told__181 : decode cX12_told_ 181 = .ok (.getfield 44, 3) := by decide +kernel
theorem dX12_told__184 : decode cX12_told_ 184 = .ok (.iload 4, 2) := by decide +kernel
theorem dX12_told__186 : decode cX12_told_ 186 = .ok (.iload 6, 2) := by decide +kernel
theorem dX12_told__188 : decode cX12_told_ 188 = .ok (.aload_n 0, 1) := by decide +kernel
theorem dX12_told__189 : decode cX12_told_ 189 = .ok (.getfield 22, 3) := by decide +kernel
theorem dX12_told__192 : decode cX12_told_ 192 = .ok (.iload 5, 2) := by decide +kernel
theorem dX12_told__194 : decode cX12_told_ 194 = .ok (.iconst 2, 1) := by decide +kernel
theorem dX12_told__195 : decode cX12_told_ 195 = .ok (.iadd, 1) := by decide +kernel
theorem dX12_told__196 : decode cX12_told_ 196 = .ok (.iaload, 1) := by decide +kernel
theorem dX12_told__197 : decode cX12_told_ 197 = .ok (.if_icmp .ne 7, 3) := by decide +kernel
theorem dX12_told__200 : decode cX12_told_ 200 = .ok (.iconst 1, 1) := by decide +kernel
theorem dX12_told__201 : decode cX12_told_ 201 = .ok (.goto 4, 3) := by decide +kernel
theorem dX12_told__204 : decode cX12_told_ 204 = .ok (.iconst 0, 1) := by decide +kernel
theorem dX12_told__205 : decode cX12_told_ 205 = .ok (.bastore, 1) := by decide +kernel
theorem dX12_told__206 : decode cX12_told_ 206 = .ok (.iinc 5 3, 3) := by decide +kernel
theorem dX12_told__209 : decode cX12_told_ 209 = .ok (.goto (-89), 3) := by decide +kernel
theorem dX12_told__212 : decode cX12_told_ 212 = .ok (.iload_n 3, 1) := by decide +kernel
theorem dX12_told__213 : decode cX12_told_ 213 = .ok (.aload_n 0, 1) := by decide +kernel
theorem dX12_told__214 : decode cX12_told_ 214 = .ok (.getfield 44, 3) := by decide +kernel
theorem dX12_told__217 : decode cX12_told_ 217 = .ok (.iload 4, 2) := by decide +kernel
theorem dX12_told__219 : decode cX12_told_ 219 = .ok (.baload, 1) := by decide +kernel
theorem dX12_told__220 : decode cX12_told_ 220 = .ok (.ifCond .eq 7, 3) := by decide +kernel
theorem dX12_told__223 : decode cX12_told_ 223 = .ok (.iconst 1, 1) := by decide +kernel
theorem dX12_told__224 : decode cX12_told_ 224 = .ok (.goto 4, 3) := by decide +kernel
theorem dX12_told__227 : decode cX12_told_ 227 = .ok (.iconst 0, 1) := by decide +kernel
theorem dX12_told__228 : decode cX12_told_ 228 = .ok (.iadd, 1) := by decide +kernel
theorem dX12_told__229 : decode cX12_told_ 229 = .ok (.istore_n 3, 1) := by decide +kernel
theorem dX12_told__230 : decode cX12_told_ 230 = .ok (.iinc 4 1, 3) := by decide +kernel
theorem dX12_told__233 : decode cX12_told_ 233 = .ok (.goto (-137), 3) := by decide +kernel
theorem dX12_told__236 : decode cX12_told_ 236 = .ok (.iload_n 3, 1) := by decide +kernel
theorem dX12_told__237 : decode cX12_told_ 237 = .ok (.ireturn, 1) := by decide +kernel
theorem dX12_with_0 : decode cX12_with 0 = .ok (.iconst 0, 1) := by decide +kernel
theorem dX12_with_1 : decode cX12_with 1 = .ok (.istore_n 2, 1) := by decide +kernel
theorem dX12_with_2 : decode cX12_with 2 = .ok (.iconst 0, 1) := by decide +kernel
theorem dX12_with_3 : decode cX12_with 3 = .ok (.istore_n 3, 1) := by decide +kernel
theorem dX12_with_4 : decode cX12_with 4 = .ok (.iload_n 3, 1) := by decide +kernel
theorem dX12_with_5 : decode cX12_with 5 = .ok (.iconst 1, 1) := by decide +kernel
theorem dX12_with_6 : decode cX12_with 6 = .ok (.aload_n 0, 1) := by decide +kernel
theorem dX12_with_7 : decode cX12_with 7 = .ok (.getfield 7, 3) := by decide +kernel
theorem dX12_with_10 : decode cX12_with 10 = .ok (.iconst 3, 1) := by decide +kernel
theorem dX12_with_11 : decode cX12_with 11 = .ok (.iaload, 1) := by decide +kernel
theorem dX12_with_12 : decode cX12_with 12 = .ok (.ishl, 1) := by decide +kernel
theorem dX12_with_13 : decode cX12_with 13 = .ok (.if_icmp .ge 34, 3) := by decide +kernel
theorem dX12_with_16 : decode cX12_with 16 = .ok (.iload_n 2, 1) := by decide +kernel
theorem dX12_with_17 : decode cX12_with 17 = .ok (.aload_n 0, 1) := by decide +kernel
theorem dX12_with_18 : decode cX12_with 18 = .ok (.getfield 44, 3) := by decide +kernel
theorem dX12_with_21 : decode cX12_with 21 = .ok (.iload_n 3, 1) := by decide +kernel
theorem dX12_with_22 : decode cX12_with 22 = .ok (.baload, 1) := by decide +kernel
theorem dX12_with_23 : decode cX12_with 23 = .ok (.ifCond .eq 15, 3) := by decide +kernel
theorem dX12_with_26 : decode cX12_with 26 = .ok (.iload_n 3, 1) := by decide +kernel
theorem dX12_with_27 : decode cX12_with 27 = .ok (.iload_n 1, 1) := by decide +kernel
theorem dX12_with_28 : decode cX12_with 28 = .ok (.invokestatic 65, 3) := by decide +kernel
theorem dX12_with_31 : decode cX12_with 31 = .ok (.ifCond .eq 7, 3) := by decide +kernel
theorem dX12_with_34 : decode cX12_with 34 = .ok (.iconst 1, 1) := by decide +kernel
theorem dX12_with_35 : decode cX12_with 35 = .ok (.goto 4, 3) := by decide +kernel
theorem dX12_with_38 : decode cX12_with 38 = .ok (.iconst 0, 1) := by decide +kernel
theorem dX12_with_39 : decode cX12_with 39 = .ok (.iadd, 1) := by decide +kernel
theorem dX12_with_40 : decode cX12_with 40 = .ok (.istore_n 2, 1) := by decide +kernel
theorem dX12_with_41 : decode cX12_with 41 = .ok (.iinc 3 1, 3) := by decide +kernel
theorem dX12_with_44 : decode cX12_with 44 = .ok (.goto (-40), 3) := by decide +kernel
theorem dX12_with_47 : decode cX12_with 47 = .ok (.iload_n 2, 1) := by decide +kernel
theorem dX12_with_48 : decode cX12_with 48 = .ok (.ireturn, 1) := by decide +kernel
theorem dX12_anniversary_0 : decode cX12_anniversary 0 = .ok (.aload_n 0, 1) := by decide +kernel
theorem dX12_anniversary_1 : decode cX12_anniversary 1 = .ok (.invokevirtual 361, 3) := by decide +kernel
theorem dX12_anniversary_4 : decode cX12_anniversary 4 = .ok (.istore_n 2, 1) := by decide +kernel
theorem dX12_anniversary_5 : decode cX12_anniversary 5 = .ok (.aload_n 0, 1) := by decide +kernel
theorem dX12_anniversary_6 : decode cX12_anniversary 6 = .ok (.iload_n 2, 1) := by decide +kernel
theorem dX12_anniversary_7 : decode cX12_anniversary 7 = .ok (.iconst (-1), 1) := by decide +kernel
theorem dX12_anniversary_8 : decode cX12_anniversary 8 = .ok (.if_icmp .ne 7, 3) := by decide +kernel
theorem dX12_anniversary_11 : decode cX12_anniversary 11 = .ok (.iconst 1, 1) := by decide +kernel
theorem dX12_anniversary_12 : decode cX12_anniversary 12 = .ok (.goto 4, 3) := by decide +kernel
theorem dX12_anniversary_15 : decode cX12_anniversary 15 = .ok (.iconst 0, 1) := by decide +kernel
theorem dX12_anniversary_16 : decode cX12_anniversary 16 = .ok (.putfield 51, 3) := by decide +kernel
theorem dX12_anniversary_19 : decode cX12_anniversary 19 = .ok (.aload_n 0, 1) := by decide +kernel
theorem dX12_anniversary_20 : decode cX12_anniversary 20 = .ok (.getfield 51, 3) := by decide +kernel
theorem dX12_anniversary_23 : decode cX12_anniversary 23 = .ok (.ifCond .gt 7, 3) := by decide +kernel
theorem dX12_anniversary_26 : decode cX12_anniversary 26 = .ok (.iload_n 1, 1) := by decide +kernel
theorem dX12_anniversary_27 : decode cX12_anniversary 27 = .ok (.ifCond .ne 16, 3) := by decide +kernel
theorem dX12_anniversary_30 : decode cX12_anniversary 30 = .ok (.aload_n 0, 1) := by decide +kernel
theorem dX12_anniversary_31 : decode cX12_anniversary 31 = .ok (.getfield 51, 3) := by decide +kernel
theorem dX12_anniversary_34 : decode cX12_anniversary 34 = .ok (.ifCond .le 7, 3) := by decide +kernel
theorem dX12_anniversary_37 : decode cX12_anniversary 37 = .ok (.iconst 0, 1) := by decide +kernel
theorem dX12_anniversary_38 : decode cX12_anniversary 38 = .ok (.goto 4, 3) := by decide +kernel
theorem dX12_anniversary_41 : decode cX12_anniversary 41 = .ok (.iload_n 2, 1) := by decide +kernel
theorem dX12_anniversary_42 : decode cX12_anniversary 42 = .ok (.ireturn, 1) := by decide +kernel
theorem dX12_anniversary_43 : decode cX12_anniversary 43 = .ok (.iconst 0, 1) := by decide +kernel
theorem dX12_anniversary_44 : decode cX12_anniversary 44 = .ok (.istore_n 3, 1) := by decide +kernel
theorem dX12_anniversary_45 : decode cX12_anniversary 45 = .ok (.iconst 0, 1) := by decide +kernel
theorem dX12_anniversary_46 : decode cX12_anniversary 46 = .ok (.istore 4, 2) := by decide +kernel
theorem dX12_anniversary_48 : decode cX12_anniversary 48 = .ok (.iload 4, 2) := by decide +kernel
theorem dX12_anniversary_50 : decode cX12_anniversary 50 = .ok (.aload_n 0, 1) := by decide +kernel
theorem dX12_anniversary_51 : decode cX12_anniversary 51 = .ok (.getfield 7, 3) := by decide +kernel
theorem dX12_anniversary_54 : decode cX12_anniversary 54 = .ok (.iconst 3, 1) := by decide +kernel
theorem dX12_anniversary_55 : decode cX12_anniversary 55 = .ok (.iaload, 1) := by decide +kernel
theorem dX12_anniversary_56 : decode cX12_anniversary 56 = .ok (.if_icmp .ge 34, 3) := by decide +kernel
theorem dX12_anniversary_59 : decode cX12_anniversary 59 = .ok (.iload_n 3, 1) := by decide +kernel
theorem dX12_anniversary_60 : decode cX12_anniversary 60 = .ok (.iload_n 2, 1) := by decide +kernel
theorem dX12_anniversary_61 : decode cX12_anniversary 61 = .ok (.ifCond .le 20, 3) := by decide +kernel
theorem dX12_anniversary_64 : decode cX12_anniversary 64 = .ok (.aload_n 0, 1) := by decide +kernel
theorem dX12_anniversary_65 : decode cX12_anniversary 65 = .ok (.iload 4, 2) := by decide +kernel
theorem dX12_anniversary_67 : decode cX12_anniversary 67 = .ok (.invokevirtual 363, 3) := by decide +kernel
theorem dX12_anniversary_70 : decode cX12_anniversary 70 = .ok (.iload_n 2, 1) := by decide +kernel
theorem dX12_anniversary_71 : decode cX12_anniversary 71 = .ok (.if_icmp .ne 10, 3) := by decide +kernel
theorem dX12_anniversary_74 : decode cX12_anniversary 74 = .ok (.iconst 1, 1) := by decide +kernel
theorem dX12_anniversary_75 : decode cX12_anniversary 75 = .ok (.iload 4, 2) := by decide +kernel
theorem dX12_anniversary_77 : decode cX12_anniversary 77 = .ok (.ishl, 1) := by decide +kernel
theorem dX12_anniversary_78 : decode cX12_anniversary 78 = .ok (.goto 4, 3) := by decide +kernel
theorem dX12_anniversary_81 : decode cX12_anniversary 81 = .ok (.iconst 0, 1) := by decide +kernel
theorem dX12_anniversary_82 : decode cX12_anniversary 82 = .ok (.ior, 1) := by decide +kernel
theorem dX12_anniversary_83 : decode cX12_anniversary 83 = .ok (.istore_n 3, 1) := by decide +kernel
theorem dX12_anniversary_84 : decode cX12_anniversary 84 = .ok (.iinc 4 1, 3) := by decide +kernel
theorem dX12_anniversary_87 : decode cX12_anniversary 87 = .ok (.goto (-39), 3) := by decide +kernel
theorem dX12_anniversary_90 : decode cX12_anniversary 90 = .ok (.iload_n 3, 1) := by decide +kernel
theorem dX12_anniversary_91 : decode cX12_anniversary 91 = .ok (.ireturn, 1) := by decide +kernel
theorem dX12_dance_0 : decode cX12_dance 0 = .ok (.aload_n 0, 1) := by decide +kernel
theorem dX12_dance_1 : decode cX12_dance 1 = .ok (.invokevirtual 361, 3) := by decide +kernel
theorem dX12_dance_4 : decode cX12_dance 4 = .ok (.istore_n 1, 1) := by decide +kernel
theorem dX12_dance_5 : decode cX12_dance 5 = .ok (.aload_n 0, 1) := by decide +kernel
theorem dX12_dance_6 : decode cX12_dance 6 = .ok (.iload_n 1, 1) := by decide +kernel
theorem dX12_dance_7 : decode cX12_dance 7 = .ok (.iconst (-1), 1) := by decide +kernel
theorem dX12_dance_8 : decode cX12_dance 8 = .ok (.if_icmp .ne 7, 3) := by decide +kernel
theorem dX12_dance_11 : decode cX12_dance 11 = .ok (.iconst 1, 1) := by decide +kernel
theorem dX12_dance_12 : decode cX12_dance 12 = .ok (.goto 4, 3) := by decide +kernel
theorem dX12_dance_15 : decode cX12_dance 15 = .ok (.iconst 0, 1) := by decide +kernel
theorem dX12_dance_16 : decode cX12_dance 16 = .ok (.putfield 51, 3) := by decide +kernel
theorem dX12_dance_19 : decode cX12_dance 19 = .ok (.aload_n 0, 1) := by decide +kernel
theorem dX12_dance_20 : decode cX12_dance 20 = .ok (.getfield 51, 3) := by decide +kernel
theorem dX12_dance_23 : decode cX12_dance 23 = .ok (.ifCond .le 5, 3) := by decide +kernel
theorem dX12_dance_26 : decode cX12_dance 26 = .ok (.iconst 0, 1) := by decide +kernel
theorem dX12_dance_27 : decode cX12_dance 27 = .ok (.ireturn, 1) := by decide +kernel
theorem dX12_dance_28 : decode cX12_dance 28 = .ok (.iconst (-1), 1) := by decide +kernel
theorem dX12_dance_29 : decode cX12_dance 29 = .ok (.istore_n 2, 1) := by decide +kernel
theorem dX12_dance_30 : decode cX12_dance 30 = .ok (.ldc_w 341, 3) := by decide +kernel
theorem dX12_dance_33 : decode cX12_dance 33 = .ok (.istore_n 3, 1) := by decide +kernel
theorem dX12_dance_34 : decode cX12_dance 34 = .ok (.iconst 0, 1) := by decide +kernel
theorem dX12_dance_35 : decode cX12_dance 35 = .ok (.istore 4, 2) := by decide +kernel
theorem dX12_dance_37 : decode cX12_dance 37 = .ok (.iload 4, 2) := by decide +kernel
theorem dX12_dance_39 : decode cX12_dance 39 = .ok (.aload_n 0, 1) := by decide +kernel
theorem dX12_dance_40 : decode cX12_dance 40 = .ok (.getfield 7, 3) := by decide +kernel
theorem dX12_dance_43 : decode cX12_dance 43 = .ok (.iconst 3, 1) := by decide +kernel
theorem dX12_dance_44 : decode cX12_dance 44 = .ok (.iaload, 1) := by decide +kernel
theorem dX12_dance_45 : decode cX12_dance 45 = .ok (.if_icmp .ge 51, 3) := by decide +kernel
theorem dX12_dance_48 : decode cX12_dance 48 = .ok (.iload_n 1, 1) := by decide +kernel
theorem dX12_dance_49 : decode cX12_dance 49 = .ok (.iconst 1, 1) := by decide +kernel
theorem dX12_dance_50 : decode cX12_dance 50 = .ok (.if_icmp .le 46, 3) := by decide +kernel
theorem dX12_dance_53 : decode cX12_dance 53 = .ok (.aload_n 0, 1) := by decide +kernel
theorem dX12_dance_54 : decode cX12_dance 54 = .ok (.iload 4, 2) := by decide +kernel
theorem dX12_dance_56 : decode cX12_dance 56 = .ok (.invokevirtual 363, 3) := by decide +kernel
theorem dX12_dance_59 : decode cX12_dance 59 = .ok (.istore 5, 2) := by decide +kernel
theorem dX12_dance_61 : decode cX12_dance 61 = .ok (.iload 5, 2) := by decide +kernel
theorem dX12_dance_63 : decode cX12_dance 63 = .ok (.iload_n 1, 1) := by decide +kernel
theorem dX12_dance_64 : decode cX12_dance 64 = .ok (.iload 5, 2) := by decide +kernel
theorem dX12_dance_66 : decode cX12_dance 66 = .ok (.isub, 1) := by decide +kernel
theorem dX12_dance_67 : decode cX12_dance 67 = .ok (.invokestatic 266, 3) := by decide +kernel
theorem dX12_dance_70 : decode cX12_dance 70 = .ok (.iload_n 3, 1) := by decide +kernel
theorem dX12_dance_71 : decode cX12_dance 71 = .ok (.if_icmp .lt 6, 3) := by decide +kernel
theorem dX12_dance_74 : decode cX12_dance 74 = .ok (.goto 16, 3) := by decide +kernel
theorem dX12_dance_77 : decode cX12_dance 77 = .ok (.iload 5, 2) := by decide +kernel
theorem dX12_dance_79 : decode cX12_dance 79 = .ok (.iload_n 1, 1) := by decide +kernel
theorem dX12_dance_80 : decode cX12_dance 80 = .ok (.iload 5, 2) := by decide +kernel
theorem dX12_dance_82 : decode cX12_dance 82 = .ok (.isub, 1) := by decide +kernel
theorem dX12_dance_83 : decode cX12_dance 83 = .ok (.invokestatic 266, 3) := by decide +kernel
theorem dX12_dance_86 : decode cX12_dance 86 = .ok (.istore_n 3, 1) := by decide +kernel
theorem dX12_dance_87 : decode cX12_dance 87 = .ok (.iload 4, 2) := by decide +kernel
theorem dX12_dance_89 : decode cX12_dance 89 = .ok (.istore_n 2, 1) := by decide +kernel
theorem dX12_dance_90 : decode cX12_dance 90 = .ok (.iinc 4 1, 3) := by decide +kernel
theorem dX12_dance_93 : decode cX12_dance 93 = .ok (.goto (-56), 3) := by decide +kernel
theorem dX12_dance_96 : decode cX12_dance 96 = .ok (.iload_n 2, 1) := by decide +kernel
theorem dX12_dance_97 : decode cX12_dance 97 = .ok (.ireturn, 1) := by decide +kernel
theorem dX12_richest_0 : decode cX12_richest 0 = .ok (.aload_n 0, 1) := by decide +kernel
theorem dX12_richest_1 : decode cX12_richest 1 = .ok (.iconst 0, 1) := by decide +kernel
theorem dX12_richest_2 : decode cX12_richest 2 = .ok (.putfield 51, 3) := by decide +kernel
theorem dX12_richest_5 : decode cX12_richest 5 = .ok (.iconst (-1), 1) := by decide +kernel
theorem dX12_richest_6 : decode cX12_richest 6 = .ok (.istore_n 1, 1) := by decide +kernel
theorem dX12_richest_7 : decode cX12_richest 7 = .ok (.iconst 0, 1) := by decide +kernel
theorem dX12_richest_8 : decode cX12_richest 8 = .ok (.istore_n 2, 1) := by decide +kernel
theorem dX12_richest_9 : decode cX12_richest 9 = .ok (.iload_n 2, 1) := by decide +kernel
theorem dX12_richest_10 : decode cX12_richest 10 = .ok (.aload_n 0, 1) := by decide +kernel
theorem dX12_richest_11 : decode cX12_richest 11 = .ok (.getfield 7, 3) := by decide +kernel
theorem dX12_richest_14 : decode cX12_richest 14 = .ok (.iconst 3, 1) := by decide +kernel
theorem dX12_richest_15 : decode cX12_richest 15 = .ok (.iaload, 1) := by decide +kernel
theorem dX12_richest_16 : decode cX12_richest 16 = .ok (.if_icmp .ge 40, 3) := by decide +kernel
theorem dX12_richest_19 : decode cX12_richest 19 = .ok (.aload_n 0, 1) := by decide +kernel
theorem dX12_richest_20 : decode cX12_richest 20 = .ok (.iload_n 2, 1) := by decide +kernel
theorem dX12_richest_21 : decode cX12_richest 21 = .ok (.iconst 3, 1) := by decide +kernel
theorem dX12_richest_22 : decode cX12_richest 22 = .ok (.invokevirtual 62, 3) := by decide +kernel
theorem dX12_richest_25 : decode cX12_richest 25 = .ok (.ifCond .ne 25, 3) := by decide +kernel
theorem dX12_richest_28 : decode cX12_richest 28 = .ok (.iload_n 1, 1) := by decide +kernel
theorem dX12_richest_29 : decode cX12_richest 29 = .ok (.iconst (-1), 1) := by decide +kernel
theorem dX12_richest_30 : decode cX12_richest 30 = .ok (.if_icmp .eq 18, 3) := by decide +kernel
theorem dX12_richest_33 : decode cX12_richest 33 = .ok (.aload_n 0, 1) := by decide +kernel
theorem dX12_richest_34 : decode cX12_richest 34 = .ok (.iload_n 2, 1) := by decide +kernel
theorem dX12_richest_35 : decode cX12_richest 35 = .ok (.iconst 0, 1) := by decide +kernel
theorem dX12_richest_36 : decode cX12_richest 36 = .ok (.invokevirtual 62, 3) := by decide +kernel
theorem dX12_richest_39 : decode cX12_richest 39 = .ok (.aload_n 0, 1) := by decide +kernel
theorem dX12_richest_40 : decode cX12_richest 40 = .ok (.iload_n 1, 1) := by decide +kernel
theorem dX12_richest_41 : decode cX12_richest 41 = .ok (.iconst 0, 1) := by decide +kernel
theorem dX12_richest_42 : decode cX12_richest 42 = .ok (.invokevirtual 62, 3) := by decide +kernel
theorem dX12_richest_45 : decode cX12_richest 45 = .ok (.if_icmp .le 5, 3) := by decide +kernel
theorem dX12_richest_48 : decode cX12_richest 48 = .ok (.iload_n 2, 1) := by decide +kernel
theorem dX12_richest_49 : decode cX12_richest 49 = .ok (.istore_n 1, 1) := by decide +kernel
theorem dX12_richest_50 : decode cX12_richest 50 = .ok (.iinc 2 1, 3) := by decide +kernel
theorem dX12_richest_53 : decode cX12_richest 53 = .ok (.goto (-44), 3) := by decide +kernel
theorem dX12_richest_56 : decode cX12_richest 56 = .ok (.iload_n 1, 1) := by decide +kernel
theorem dX12_richest_57 : decode cX12_richest 57 = .ok (.ireturn, 1) := by decide +kernel
theorem dX12_ruinedOnes_0 : decode cX12_ruinedOnes 0 = .ok (.iconst 0, 1) := by decide +kernel
theorem dX12_ruinedOnes_1 : decode cX12_ruinedOnes 1 = .ok (.istore_n 1, 1) := by decide +kernel
theorem dX12_ruinedOnes_2 : decode cX12_ruinedOnes 2 = .ok (.iconst 0, 1) := by decide +kernel
theorem dX12_ruinedOnes_3 : decode cX12_ruinedOnes 3 = .ok (.istore_n 2, 1) := by decide +kernel
theorem dX12_ruinedOnes_4 : decode cX12_ruinedOnes 4 = .ok (.iload_n 2, 1) := by decide +kernel
theorem dX12_ruinedOnes_5 : decode cX12_ruinedOnes 5 = .ok (.aload_n 0, 1) := by decide +kernel
theorem dX12_ruinedOnes_6 : decode cX12_ruinedOnes 6 = .ok (.getfield 7, 3) := by decide +kernel
theorem dX12_ruinedOnes_9 : decode cX12_ruinedOnes 9 = .ok (.iconst 3, 1) := by decide +kernel
theorem dX12_ruinedOnes_10 : decode cX12_ruinedOnes 10 = .ok (.iaload, 1) := by decide +kernel
theorem dX12_ruinedOnes_11 : decode cX12_ruinedOnes 11 = .ok (.if_icmp .ge 20, 3) := by decide +kernel
theorem dX12_ruinedOnes_14 : decode cX12_ruinedOnes 14 = .ok (.iload_n 1, 1) := by decide +kernel
theorem dX12_ruinedOnes_15 : decode cX12_ruinedOnes 15 = .ok (.aload_n 0, 1) := by decide +kernel
theorem dX12_ruinedOnes_16 : decode cX12_ruinedOnes 16 = .ok (.iload_n 2, 1) := by decide +kernel
theorem dX12_ruinedOnes_17 : decode cX12_ruinedOnes 17 = .ok (.iconst 3, 1) := by decide +kernel
theorem dX12_ruinedOnes_18 : decode cX12_ruinedOnes 18 = .ok (.invokevirtual 62, 3) := by decide +kernel
theorem dX12_ruinedOnes_21 : decode cX12_ruinedOnes 21 = .ok (.iload_n 2, 1) := by decide +kernel
theorem dX12_ruinedOnes_22 : decode cX12_ruinedOnes 22 = .ok (.ishl, 1) := by decide +kernel
theorem dX12_ruinedOnes_23 : decode cX12_ruinedOnes 23 = .ok (.ior, 1) := by decide +kernel
theorem dX12_ruinedOnes_24 : decode cX12_ruinedOnes 24 = .ok (.istore_n 1, 1) := by decide +kernel
theorem dX12_ruinedOnes_25 : decode cX12_ruinedOnes 25 = .ok (.iinc 2 1, 3) := by decide +kernel
theorem dX12_ruinedOnes_28 : decode cX12_ruinedOnes 28 = .ok (.goto (-24), 3) := by decide +kernel
theorem dX12_ruinedOnes_31 : decode cX12_ruinedOnes 31 = .ok (.iload_n 1, 1) := by decide +kernel
theorem dX12_ruinedOnes_32 : decode cX12_ruinedOnes 32 = .ok (.ireturn, 1) := by decide +kernel
theorem dX12_trial_0 : decode cX12_trial 0 = .ok (.aload_n 0, 1) := by decide +kernel
theorem dX12_trial_1 : decode cX12_trial 1 = .ok (.iload_n 1, 1) := by decide +kernel
theorem dX12_trial_2 : decode cX12_trial 2 = .ok (.iconst 0, 1) := by decide +kernel
theorem dX12_trial_3 : decode cX12_trial 3 = .ok (.bipush 40, 2) := by decide +kernel
theorem dX12_trial_5 : decode cX12_trial 5 = .ok (.invokestatic 54, 3) := by decide +kernel
theorem dX12_trial_8 : decode cX12_trial 8 = .ok (.ifCond .ne 7, 3) := by decide +kernel
theorem dX12_trial_11 : decode cX12_trial 11 = .ok (.iconst 1, 1) := by decide +kernel
theorem dX12_trial_12 : decode cX12_trial 12 = .ok (.goto 4, 3) := by decide +kernel
theorem dX12_trial_15 : decode cX12_trial 15 = .ok (.iconst 0, 1) := by decide +kernel
theorem dX12_trial_16 : decode cX12_trial 16 = .ok (.putfield 51, 3) := by decide +kernel
theorem dX12_trial_19 : decode cX12_trial 19 = .ok (.aload_n 0, 1) := by decide +kernel
theorem dX12_trial_20 : decode cX12_trial 20 = .ok (.getfield 51, 3) := by decide +kernel
theorem dX12_trial_23 : decode cX12_trial 23 = .ok (.ifCond .le 5, 3) := by decide +kernel
theorem dX12_trial_26 : decode cX12_trial 26 = .ok (.iconst 0, 1) := by decide +kernel
theorem dX12_trial_27 : decode cX12_trial 27 = .ok (.ireturn, 1) := by decide +kernel
theorem dX12_trial_28 : decode cX12_trial 28 = .ok (.aload_n 0, 1) := by decide +kernel
theorem dX12_trial_29 : decode cX12_trial 29 = .ok (.invokevirtual 188, 3) := by decide +kernel
theorem dX12_trial_32 : decode cX12_trial 32 = .ok (.aload_n 0, 1) := by decide +kernel
theorem dX12_trial_33 : decode cX12_trial 33 = .ok (.iload_n 1, 1) := by decide +kernel
theorem dX12_trial_34 : decode cX12_trial 34 = .ok (.invokevirtual 314, 3) := by decide +kernel
theorem dX12_trial_37 : decode cX12_trial 37 = .ok (.istore_n 3, 1) := by decide +kernel
theorem dX12_trial_38 : decode cX12_trial 38 = .ok (.iload_n 2, 1) := by decide +kernel
theorem dX12_trial_39 : decode cX12_trial 39 = .ok (.ifCond .eq 10, 3) := by decide +kernel
theorem dX12_trial_42 : decode cX12_trial 42 = .ok (.aload_n 0, 1) := by decide +kernel
theorem dX12_trial_43 : decode cX12_trial 43 = .ok (.invokevirtual 366, 3) := by decide +kernel
theorem dX12_trial_46 : decode cX12_trial 46 = .ok (.goto 4, 3) := by decide +kernel
theorem dX12_trial_49 : decode cX12_trial 49 = .ok (.iload_n 3, 1) := by decide +kernel
theorem dX12_trial_50 : decode cX12_trial 50 = .ok (.istore 4, 2) := by decide +kernel
theorem dX12_trial_52 : decode cX12_trial 52 = .ok (.aload_n 0, 1) := by decide +kernel
theorem dX12_trial_53 : decode cX12_trial 53 = .ok (.invokevirtual 198, 3) := by decide +kernel
theorem dX12_trial_56 : decode cX12_trial 56 = .ok (.iload 4, 2) := by decide +kernel
theorem dX12_trial_58 : decode cX12_trial 58 = .ok (.ireturn, 1) := by decide +kernel
theorem dX12_span_0 : decode cX12_span 0 = .ok (.aload_n 0, 1) := by decide +kernel
theorem dX12_span_1 : decode cX12_span 1 = .ok (.iload_n 1, 1) := by decide +kernel
theorem dX12_span_2 : decode cX12_span 2 = .ok (.iconst 0, 1) := by decide +kernel
theorem dX12_span_3 : decode cX12_span 3 = .ok (.bipush 40, 2) := by decide +kernel
theorem dX12_span_5 : decode cX12_span 5 = .ok (.invokestatic 54, 3) := by decide +kernel
theorem dX12_span_8 : decode cX12_span 8 = .ok (.ifCond .ne 7, 3) := by decide +kernel
theorem dX12_span_11 : decode cX12_span 11 = .ok (.iconst 1, 1) := by decide +kernel
theorem dX12_span_12 : decode cX12_span 12 = .ok (.goto 4, 3) := by decide +kernel
theorem dX12_span_15 : decode cX12_span 15 = .ok (.iconst 0, 1) := by decide +kernel
theorem dX12_span_16 : decode cX12_span 16 = .ok (.putfield 51, 3) := by decide +kernel
theorem dX12_span_19 : decode cX12_span 19 = .ok (.aload_n 0, 1) := by decide +kernel
theorem dX12_span_20 : decode cX12_span 20 = .ok (.getfield 51, 3) := by decide +kernel
theorem dX12_span_23 : decode cX12_span 23 = .ok (.ifCond .le 5, 3) := by decide +kernel
theorem dX12_span_26 : decode cX12_span 26 = .ok (.iconst 0, 1) := by decide +kernel
theorem dX12_span_27 : decode cX12_span 27 = .ok (.ireturn, 1) := by decide +kernel
theorem dX12_span_28 : decode cX12_span 28 = .ok (.aload_n 0, 1) := by decide +kernel
theorem dX12_span_29 : decode cX12_span 29 = .ok (.invokevirtual 188, 3) := by decide +kernel
theorem dX12_span_32 : decode cX12_span 32 = .ok (.iconst (-1), 1) := by decide +kernel
theorem dX12_span_33 : decode cX12_span 33 = .ok (.istore_n 3, 1) := by decide +kernel
theorem dX12_span_34 : decode cX12_span 34 = .ok (.iconst 1, 1) := by decide +kernel
theorem dX12_span_35 : decode cX12_span 35 = .ok (.istore 4, 2) := by decide +kernel
theorem dX12_span_37 : decode cX12_span 37 = .ok (.iload 4, 2) := by decide +kernel
theorem dX12_span_39 : decode cX12_span 39 = .ok (.bipush 6, 2) := by decide +kernel
theorem dX12_span_41 : decode cX12_span 41 = .ok (.if_icmp .gt 59, 3) := by decide +kernel
theorem dX12_span_44 : decode cX12_span 44 = .ok (.aload_n 0, 1) := by decide +kernel
theorem dX12_span_45 : decode cX12_span 45 = .ok (.getfield 7, 3) := by decide +kernel
theorem dX12_span_48 : decode cX12_span 48 = .ok (.bipush 12, 2) := by decide +kernel
theorem dX12_span_50 : decode cX12_span 50 = .ok (.iload 4, 2) := by decide +kernel
theorem dX12_span_52 : decode cX12_span 52 = .ok (.iastore, 1) := by decide +kernel
theorem dX12_span_53 : decode cX12_span 53 = .ok (.aload_n 0, 1) := by decide +kernel
theorem dX12_span_54 : decode cX12_span 54 = .ok (.iload_n 1, 1) := by decide +kernel
theorem dX12_span_55 : decode cX12_span 55 = .ok (.invokevirtual 314, 3) := by decide +kernel
theorem dX12_span_58 : decode cX12_span 58 = .ok (.istore 5, 2) := by decide +kernel
theorem dX12_span_60 : decode cX12_span 60 = .ok (.aload_n 0, 1) := by decide +kernel
theorem dX12_span_61 : decode cX12_span 61 = .ok (.invokevirtual 198, 3) := by decide +kernel
theorem dX12_span_64 : decode cX12_span 64 = .ok (.iload_n 3, 1) := by decide +kernel
theorem dX12_span_65 : decode cX12_span 65 = .ok (.iconst (-1), 1) := by decide +kernel
theorem dX12_span_66 : decode cX12_span 66 = .ok (.if_icmp .ne 8, 3) := by decide +kernel
theorem dX12_span_69 : decode cX12_span 69 = .ok (.iload 5, 2) := by decide +kernel
theorem dX12_span_71 : decode cX12_span 71 = .ok (.goto 22, 3) := by decide +kernel
theorem dX12_span_74 : decode cX12_span 74 = .ok (.iload_n 2, 1) := by decide +kernel
theorem dX12_span_75 : decode cX12_span 75 = .ok (.ifCond .eq 12, 3) := by decide +kernel
theorem dX12_span_78 : decode cX12_span 78 = .ok (.iload_n 3, 1) := by decide +kernel
theorem dX12_span_79 : decode cX12_span 79 = .ok (.iload 5, 2) := by decide +kernel
theorem dX12_span_81 : decode cX12_span 81 = .ok (.invokestatic 266, 3) := by decide +kernel
theorem dX12_span_84 : decode cX12_span 84 = .ok (.goto 9, 3) := by decide +kernel
theorem dX12_span_87 : decode cX12_span 87 = .ok (.iload_n 3, 1) := by decide +kernel
theorem dX12_span_88 : decode cX12_span 88 = .ok (.iload 5, 2) := by decide +kernel
theorem dX12_span_90 : decode cX12_span 90 = .ok (.invokestatic 263, 3) := by decide +kernel
theorem dX12_span_93 : decode cX12_span 93 = .ok (.istore_n 3, 1) := by decide +kernel
theorem dX12_span_94 : decode cX12_span 94 = .ok (.iinc 4 1, 3) := by decide +kernel
theorem dX12_span_97 : decode cX12_span 97 = .ok (.goto (-60), 3) := by decide +kernel
theorem dX12_span_100 : decode cX12_span 100 = .ok (.iload_n 3, 1) := by decide +kernel
theorem dX12_span_101 : decode cX12_span 101 = .ok (.ireturn, 1) := by decide +kernel
theorem dX12_logged_0 : decode cX12_logged 0 = .ok (.aload_n 0, 1) := by decide +kernel
theorem dX12_logged_1 : decode cX12_logged 1 = .ok (.getfield 7, 3) := by decide +kernel
theorem dX12_logged_4 : decode cX12_logged 4 = .ok (.sipush 210, 3) := by decide +kernel
theorem dX12_logged_7 : decode cX12_logged 7 = .ok (.iconst 4, 1) := by decide +kernel
theorem dX12_logged_8 : decode cX12_logged 8 = .ok (.iload_n 1, 1) := by decide +kernel
theorem dX12_logged_9 : decode cX12_logged 9 = .ok (.imul, 1) := by decide +kernel
theorem dX12_logged_10 : decode cX12_logged 10 = .ok (.iadd, 1) := by decide +kernel
theorem dX12_logged_11 : decode cX12_logged 11 = .ok (.iload_n 2, 1) := by decide +kernel
theorem dX12_logged_12 : decode cX12_logged 12 = .ok (.iadd, 1) := by decide +kernel
theorem dX12_logged_13 : decode cX12_logged 13 = .ok (.iaload, 1) := by decide +kernel
theorem dX12_logged_14 : decode cX12_logged 14 = .ok (.ireturn, 1) := by decide +kernel
theorem dX12_led_0 : decode cX12_led 0 = .ok (.aload_n 0, 1) := by decide +kernel
theorem dX12_led_1 : decode cX12_led 1 = .ok (.aload_n 0, 1) := by decide +kernel
theorem dX12_led_2 : decode cX12_led 2 = .ok (.iload_n 1, 1) := by decide +kernel
theorem dX12_led_3 : decode cX12_led 3 = .ok (.invokevirtual 305, 3) := by decide +kernel
theorem dX12_led_6 : decode cX12_led 6 = .ok (.ifCond .ne 7, 3) := by decide +kernel
theorem dX12_led_9 : decode cX12_led 9 = .ok (.iconst 1, 1) := by decide +kernel
theorem dX12_led_10 : decode cX12_led 10 = .ok (.goto 4, 3) := by decide +kernel
theorem dX12_led_13 : decode cX12_led 13 = .ok (.iconst 0, 1) := by decide +kernel
theorem dX12_led_14 : decode cX12_led 14 = .ok (.putfield 51, 3) := by decide +kernel
theorem dX12_led_17 : decode cX12_led 17 = .ok (.iconst 0, 1) := by decide +kernel
theorem dX12_led_18 : decode cX12_led 18 = .ok (.istore_n 3, 1) := by decide +kernel
theorem dX12_led_19 : decode cX12_led 19 = .ok (.iconst 0, 1) := by decide +kernel
theorem dX12_led_20 : decode cX12_led 20 = .ok (.istore 4, 2) := by decide +kernel
theorem dX12_led_22 : decode cX12_led 22 = .ok (.iload 4, 2) := by decide +kernel
theorem dX12_led_24 : decode cX12_led 24 = .ok (.aload_n 0, 1) := by decide +kernel
theorem dX12_led_25 : decode cX12_led 25 = .ok (.getfield 7, 3) := by decide +kernel
theorem dX12_led_28 : decode cX12_led 28 = .ok (.bipush 11, 2) := by decide +kernel
theorem dX12_led_30 : decode cX12_led 30 = .ok (.iaload, 1) := by decide +kernel
theorem dX12_led_31 : decode cX12_led 31 = .ok (.if_icmp .ge 49, 3) := by decide +kernel
theorem dX12_led_34 : decode cX12_led 34 = .ok (.aload_n 0, 1) := by decide +kernel
theorem dX12_led_35 : decode cX12_led 35 = .ok (.getfield 51, 3) := by decide +kernel
theorem dX12_led_38 : decode cX12_led 38 = .ok (.ifCond .ne 42, 3) := by decide +kernel
theorem dX12_led_41 : decode cX12_led 41 = .ok (.iload_n 3, 1) := by decide +kernel
theorem dX12_led_42 : decode cX12_led 42 = .ok (.aload_n 0, 1) := by decide +kernel
theorem dX12_led_43 : decode cX12_led 43 = .ok (.iload 4, 2) := by decide +kernel
theorem dX12_led_45 : decode cX12_led 45 = .ok (.iconst 1, 1) := by decide +kernel
theorem dX12_led_46 : decode cX12_led 46 = .ok (.invokevirtual 369, 3) := by decide +kernel
theorem dX12_led_49 : decode cX12_led 49 = .ok (.iload_n 1, 1) := by decide +kernel
theorem dX12_led_50 : decode cX12_led 50 = .ok (.if_icmp .eq 7, 3) := by decide +kernel
theorem dX12_led_53 : decode cX12_led 53 = .ok (.iconst 0, 1) := by decide +kernel
theorem dX12_led_54 : decode cX12_led 54 = .ok (.goto 18, 3) := by decide +kernel
theorem dX12_led_57 : decode cX12_led 57 = .ok (.iload_n 2, 1) := by decide +kernel
theorem dX12_led_58 : decode cX12_led 58 = .ok (.ifCond .eq 13, 3) := by decide +kernel
theorem dX12_led_61 : decode cX12_led 61 = .ok (.aload_n 0, 1) := by decide +kernel
theorem dX12_led_62 : decode cX12_led 62 = .ok (.iload 4, 2) := by decide +kernel
theorem dX12_led_64 : decode cX12_led 64 = .ok (.iconst 2, 1) := by decide +kernel
theorem dX12_led_65 : decode cX12_led 65 = .ok (.invokevirtual 369, 3) := by decide +kernel
theorem dX12_led_68 : decode cX12_led 68 = .ok (.goto 4, 3) := by decide +kernel
theorem dX12_led_71 : decode cX12_led 71 = .ok (.iconst 1, 1) := by decide +kernel
theorem dX12_led_72 : decode cX12_led 72 = .ok (.iadd, 1) := by decide +kernel
theorem dX12_led_73 : decode cX12_led 73 = .ok (.istore_n 3, 1) := by decide +kernel
theorem dX12_led_74 : decode cX12_led 74 = .ok (.iinc 4 1, 3) := by decide +kernel
theorem dX12_led_77 : decode cX12_led 77 = .ok (.goto (-55), 3) := by decide +kernel
theorem dX12_led_80 : decode cX12_led 80 = .ok (.iload_n 3, 1) := by decide +kernel
theorem dX12_led_81 : decode cX12_led 81 = .ok (.ireturn, 1) := by decide +kernel
theorem dX12_log_0 : decode cX12_log 0 = .ok (.aload_n 0, 1) := by decide +kernel
theorem dX12_log_1 : decode cX12_log 1 = .ok (.iload_n 2, 1) := by decide +kernel
theorem dX12_log_2 : decode cX12_log 2 = .ok (.iconst 0, 1) := by decide +kernel
theorem dX12_log_3 : decode cX12_log 3 = .ok (.iconst 3, 1) := by decide +kernel
theorem dX12_log_4 : decode cX12_log 4 = .ok (.invokestatic 54, 3) := by decide +kernel
theorem dX12_log_7 : decode cX12_log 7 = .ok (.ifCond .ne 7, 3) := by decide +kernel
theorem dX12_log_10 : decode cX12_log 10 = .ok (.iconst 1, 1) := by decide +kernel
theorem dX12_log_11 : decode cX12_log 11 = .ok (.goto 4, 3) := by decide +kernel
theorem dX12_log_14 : decode cX12_log 14 = .ok (.iconst 0, 1) := by decide +kernel
theorem dX12_log_15 : decode cX12_log 15 = .ok (.putfield 51, 3) := by decide +kernel
theorem dX12_log_18 : decode cX12_log 18 = .ok (.aload_n 0, 1) := by decide +kernel
theorem dX12_log_19 : decode cX12_log 19 = .ok (.getfield 51, 3) := by decide +kernel
theorem dX12_log_22 : decode cX12_log 22 = .ok (.ifCond .le 5, 3) := by decide +kernel
theorem dX12_log_25 : decode cX12_log 25 = .ok (.iconst 0, 1) := by decide +kernel
theorem dX12_log_26 : decode cX12_log 26 = .ok (.ireturn, 1) := by decide +kernel
theorem dX12_log_27 : decode cX12_log 27 = .ok (.iload_n 1, 1) := by decide +kernel
theorem dX12_log_28 : decode cX12_log 28 = .ok (.iconst 0, 1) := by decide +kernel
theorem dX12_log_29 : decode cX12_log 29 = .ok (.aload_n 0, 1) := by decide +kernel
theorem dX12_log_30 : decode cX12_log 30 = .ok (.getfield 7, 3) := by decide +kernel
theorem dX12_log_33 : decode cX12_log 33 = .ok (.bipush 11, 2) := by decide +kernel
theorem dX12_log_35 : decode cX12_log 35 = .ok (.iaload, 1) := by decide +kernel
theorem dX12_log_36 : decode cX12_log 36 = .ok (.iconst 1, 1) := by decide +kernel
theorem dX12_log_37 : decode cX12_log 37 = .ok (.isub, 1) := by decide +kernel
theorem dX12_log_38 : decode cX12_log 38 = .ok (.invokestatic 54, 3) := by decide +kernel
theorem dX12_log_41 : decode cX12_log 41 = .ok (.ifCond .eq 12, 3) := by decide +kernel
theorem dX12_log_44 : decode cX12_log 44 = .ok (.aload_n 0, 1) := by decide +kernel
theorem dX12_log_45 : decode cX12_log 45 = .ok (.iload_n 1, 1) := by decide +kernel
theorem dX12_log_46 : decode cX12_log 46 = .ok (.iload_n 2, 1) := by decide +kernel
theorem dX12_log_47 : decode cX12_log 47 = .ok (.invokevirtual 369, 3) := by decide +kernel
theorem dX12_log_50 : decode cX12_log 50 = .ok (.goto 4, 3) := by decide +kernel
theorem dX12_log_53 : decode cX12_log 53 = .ok (.iconst (-1), 1) := by decide +kernel
theorem dX12_log_54 : decode cX12_log 54 = .ok (.ireturn, 1) := by decide +kernel
theorem dX12_seed_0 : decode cX12_seed 0 = .ok (.aload_n 0, 1) := by decide +kernel
theorem dX12_seed_1 : decode cX12_seed 1 = .ok (.iconst 0, 1) := by decide +kernel
theorem dX12_seed_2 : decode cX12_seed 2 = .ok (.putfield 51, 3) := by decide +kernel
theorem dX12_seed_5 : decode cX12_seed 5 = .ok (.aload_n 0, 1) := by decide +kernel
theorem dX12_seed_6 : decode cX12_seed 6 = .ok (.getfield 7, 3) := by decide +kernel
theorem dX12_seed_9 : decode cX12_seed 9 = .ok (.bipush 12, 2) := by decide +kernel
theorem dX12_seed_11 : decode cX12_seed 11 = .ok (.iaload, 1) := by decide +kernel
theorem dX12_seed_12 : decode cX12_seed 12 = .ok (.istore_n 2, 1) := by decide +kernel
theorem dX12_seed_13 : decode cX12_seed 13 = .ok (.aload_n 0, 1) := by decide +kernel
theorem dX12_seed_14 : decode cX12_seed 14 = .ok (.getfield 7, 3) := by decide +kernel
theorem dX12_seed_17 : decode cX12_seed 17 = .ok (.bipush 12, 2) := by decide +kernel
theorem dX12_seed_19 : decode cX12_seed 19 = .ok (.iload_n 1, 1) := by decide +kernel
theorem dX12_seed_20 : decode cX12_seed 20 = .ok (.iastore, 1) := by decide +kernel
theorem dX12_seed_21 : decode cX12_seed 21 = .ok (.iload_n 2, 1) := by decide +kernel
theorem dX12_seed_22 : decode cX12_seed 22 = .ok (.ireturn, 1) := by decide +kernel
theorem dX12_undo_0 : decode cX12_undo 0 = .ok (.aload_n 0, 1) := by decide +kernel
theorem dX12_undo_1 : decode cX12_undo 1 = .ok (.iconst 0, 1) := by decide +kernel
theorem dX12_undo_2 : decode cX12_undo 2 = .ok (.putfield 51, 3) := by decide +kernel
theorem dX12_undo_5 : decode cX12_undo 5 = .ok (.aload_n 0, 1) := by decide +kernel
theorem dX12_undo_6 : decode cX12_undo 6 = .ok (.getfield 201, 3) := by decide +kernel
theorem dX12_undo_9 : decode cX12_undo 9 = .ok (.ifCond .ne 5, 3) := by decide +kernel
theorem dX12_undo_12 : decode cX12_undo 12 = .ok (.iconst 0, 1) := by decide +kernel
theorem dX12_undo_13 : decode cX12_undo 13 = .ok (.ireturn, 1) := by decide +kernel
theorem dX12_undo_14 : decode cX12_undo 14 = .ok (.aload_n 0, 1) := by decide +kernel
theorem dX12_undo_15 : decode cX12_undo 15 = .ok (.dup, 1) := by decide +kernel
theorem dX12_undo_16 : decode cX12_undo 16 = .ok (.getfield 201, 3) := by decide +kernel
theorem dX12_undo_19 : decode cX12_undo 19 = .ok (.iconst 1, 1) := by decide +kernel
theorem dX12_undo_20 : decode cX12_undo 20 = .ok (.isub, 1) := by decide +kernel
theorem dX12_undo_21 : decode cX12_undo 21 = .ok (.putfield 201, 3) := by decide +kernel
theorem dX12_undo_24 : decode cX12_undo 24 = .ok (.iconst 0, 1) := by decide +kernel
theorem dX12_undo_25 : decode cX12_undo 25 = .ok (.istore_n 1, 1) := by decide +kernel
theorem dX12_undo_26 : decode cX12_undo 26 = .ok (.iload_n 1, 1) := by decide +kernel
theorem dX12_undo_27 : decode cX12_undo 27 = .ok (.sipush 450, 3) := by decide +kernel
theorem dX12_undo_30 : decode cX12_undo 30 = .ok (.if_icmp .ge 30, 3) := by decide +kernel
theorem dX12_undo_33 : decode cX12_undo 33 = .ok (.aload_n 0, 1) := by decide +kernel
theorem dX12_undo_34 : decode cX12_undo 34 = .ok (.getfield 7, 3) := by decide +kernel
theorem dX12_undo_37 : decode cX12_undo 37 = .ok (.iload_n 1, 1) := by decide +kernel
theorem dX12_undo_38 : decode cX12_undo 38 = .ok (.aload_n 0, 1) := by decide +kernel
theorem dX12_undo_39 : decode cX12_undo 39 = .ok (.getfield 19, 3) := by decide +kernel
theorem dX12_undo_42 : decode cX12_undo 42 = .ok (.sipush 450, 3) := by decide +kernel
theorem dX12_undo_45 : decode cX12_undo 45 = .ok (.aload_n 0, 1) := by decide +kernel
theorem dX12_undo_46 : decode cX12_undo 46 = .ok (.getfield 201, 3) := by decide +kernel
theorem dX12_undo_49 : decode cX12_undo 49 = .ok (.imul, 1) := by decide +kernel
theorem dX12_undo_50 : decode cX12_undo 50 = .ok (.iload_n 1, 1) := by decide +kernel
theorem dX12_undo_51 : decode cX12_undo 51 = .ok (.iadd, 1) := by decide +kernel
theorem dX12_undo_52 : decode cX12_undo 52 = .ok (.iaload, 1) := by decide +kernel
theorem dX12_undo_53 : decode cX12_undo 53 = .ok (.iastore, 1) := by decide +kernel
theorem dX12_undo_54 : decode cX12_undo 54 = .ok (.iinc 1 1, 3) := by decide +kernel
theorem dX12_undo_57 : decode cX12_undo 57 = .ok (.goto (-31), 3) := by decide +kernel
theorem dX12_undo_60 : decode cX12_undo 60 = .ok (.iconst 1, 1) := by decide +kernel
theorem dX12_undo_61 : decode cX12_undo 61 = .ok (.ireturn, 1) := by decide +kernel
theorem dX12_image_0 : decode cX12_image 0 = .ok (.aload_n 0, 1) := by decide +kernel
theorem dX12_image_1 : decode cX12_image 1 = .ok (.iconst 0, 1) := by decide +kernel
theorem dX12_image_2 : decode cX12_image 2 = .ok (.putfield 51, 3) := by decide +kernel
theorem dX12_image_5 : decode cX12_image 5 = .ok (.iconst 0, 1) := by decide +kernel
theorem dX12_image_6 : decode cX12_image 6 = .ok (.istore_n 1, 1) := by decide +kernel
theorem dX12_image_7 : decode cX12_image 7 = .ok (.iload_n 1, 1) := by decide +kernel
theorem dX12_image_8 : decode cX12_image 8 = .ok (.sipush 850, 3) := by decide +kernel
theorem dX12_image_11 : decode cX12_image 11 = .ok (.if_icmp .ge 21, 3) := by decide +kernel
theorem dX12_image_14 : decode cX12_image 14 = .ok (.aload_n 0, 1) := by decide +kernel
theorem dX12_image_15 : decode cX12_image 15 = .ok (.getfield 13, 3) := by decide +kernel
theorem dX12_image_18 : decode cX12_image 18 = .ok (.iload_n 1, 1) := by decide +kernel
theorem dX12_image_19 : decode cX12_image 19 = .ok (.aload_n 0, 1) := by decide +kernel
theorem dX12_image_20 : decode cX12_image 20 = .ok (.getfield 7, 3) := by decide +kernel
theorem dX12_image_23 : decode cX12_image 23 = .ok (.iload_n 1, 1) := by decide +kernel
theorem dX12_image_24 : decode cX12_image 24 = .ok (.iaload, 1) := by decide +kernel
theorem dX12_image_25 : decode cX12_image 25 = .ok (.iastore, 1) := by decide +kernel
theorem dX12_image_26 : decode cX12_image 26 = .ok (.iinc 1 1, 3) := by decide +kernel
theorem dX12_image_29 : decode cX12_image 29 = .ok (.goto (-22), 3) := by decide +kernel
theorem dX12_image_32 : decode cX12_image 32 = .ok (.aload_n 0, 1) := by decide +kernel
theorem dX12_image_33 : decode cX12_image 33 = .ok (.iconst 1, 1) := by decide +kernel
theorem dX12_image_34 : decode cX12_image 34 = .ok (.putfield 372, 3) := by decide +kernel
theorem dX12_image_37 : decode cX12_image 37 = .ok (.return_, 1) := by decide +kernel
theorem dX12_back_0 : decode cX12_back 0 = .ok (.aload_n 0, 1) := by decide +kernel
theorem dX12_back_1 : decode cX12_back 1 = .ok (.iconst 0, 1) := by decide +kernel
theorem dX12_back_2 : decode cX12_back 2 = .ok (.putfield 51, 3) := by decide +kernel
theorem dX12_back_5 : decode cX12_back 5 = .ok (.aload_n 0, 1) := by decide +kernel
theorem dX12_back_6 : decode cX12_back 6 = .ok (.getfield 372, 3) := by decide +kernel
theorem dX12_back_9 : decode cX12_back 9 = .ok (.ifCond .ne 5, 3) := by decide +kernel
theorem dX12_back_12 : decode cX12_back 12 = .ok (.iconst 0, 1) := by decide +kernel
theorem dX12_back_13 : decode cX12_back 13 = .ok (.ireturn, 1) := by decide +kernel
theorem dX12_back_14 : decode cX12_back 14 = .ok (.iconst 0, 1) := by decide +kernel
theorem dX12_back_15 : decode cX12_back 15 = .ok (.istore_n 1, 1) := by decide +kernel
theorem dX12_back_16 : decode cX12_back 16 = .ok (.iload_n 1, 1) := by decide +kernel
theorem dX12_back_17 : decode cX12_back 17 = .ok (.sipush 850, 3) := by decide +kernel
theorem dX12_back_20 : decode cX12_back 20 = .ok (.if_icmp .ge 21, 3) := by decide +kernel
theorem dX12_back_23 : decode cX12_back 23 = .ok (.aload_n 0, 1) := by decide +kernel
theorem dX12_back_24 : decode cX12_back 24 = .ok (.getfield 7, 3) := by decide +kernel
theorem dX12_back_27 : decode cX12_back 27 = .ok (.iload_n 1, 1) := by decide +kernel
theorem dX12_back_28 : decode cX12_back 28 = .ok (.aload_n 0, 1) := by decide +kernel
theorem dX12_back_29 : decode cX12_back 29 = .ok (.getfield 13, 3) := by decide +kernel
theorem dX12_back_32 : decode cX12_back 32 = .ok (.iload_n 1, 1) := by decide +kernel
theorem dX12_back_33 : decode cX12_back 33 = .ok (.iaload, 1) := by decide +kernel
theorem dX12_back_34 : decode cX12_back 34 = .ok (.iastore, 1) := by decide +kernel
theorem dX12_back_35 : decode cX12_back 35 = .ok (.iinc 1 1, 3) := by decide +kernel
theorem dX12_back_38 : decode cX12_back 38 = .ok (.goto (-22), 3) := by decide +kernel
theorem dX12_back_41 : decode cX12_back 41 = .ok (.aload_n 0, 1) := by decide +kernel
theorem dX12_back_42 : decode cX12_back 42 = .ok (.iconst 0, 1) := by decide +kernel
theorem dX12_back_43 : decode cX12_back 43 = .ok (.putfield 201, 3) := by decide +kernel
theorem dX12_back_46 : decode cX12_back 46 = .ok (.iconst 1, 1) := by decide +kernel
theorem dX12_back_47 : decode cX12_back 47 = .ok (.ireturn, 1) := by decide +kernel
theorem dX12_wedOnes_0 : decode cX12_wedOnes 0 = .ok (.iconst 0, 1) := by decide +kernel
theorem dX12_wedOnes_1 : decode cX12_wedOnes 1 = .ok (.istore_n 1, 1) := by decide +kernel
theorem dX12_wedOnes_2 : decode cX12_wedOnes 2 = .ok (.iconst 0, 1) := by decide +kernel
theorem dX12_wedOnes_3 : decode cX12_wedOnes 3 = .ok (.istore_n 2, 1) := by decide +kernel
theorem dX12_wedOnes_4 : decode cX12_wedOnes 4 = .ok (.iload_n 2, 1) := by decide +kernel
theorem dX12_wedOnes_5 : decode cX12_wedOnes 5 = .ok (.aload_n 0, 1) := by decide +kernel
theorem dX12_wedOnes_6 : decode cX12_wedOnes 6 = .ok (.getfield 7, 3) := by decide +kernel
theorem dX12_wedOnes_9 : decode cX12_wedOnes 9 = .ok (.iconst 3, 1) := by decide +kernel
theorem dX12_wedOnes_10 : decode cX12_wedOnes 10 = .ok (.iaload, 1) := by decide +kernel
theorem dX12_wedOnes_11 : decode cX12_wedOnes 11 = .ok (.if_icmp .ge 28, 3) := by decide +kernel
theorem dX12_wedOnes_14 : decode cX12_wedOnes 14 = .ok (.iload_n 1, 1) := by decide +kernel
theorem dX12_wedOnes_15 : decode cX12_wedOnes 15 = .ok (.aload_n 0, 1) := by decide +kernel
theorem dX12_wedOnes_16 : decode cX12_wedOnes 16 = .ok (.iload_n 2, 1) := by decide +kernel
theorem dX12_wedOnes_17 : decode cX12_wedOnes 17 = .ok (.invokevirtual 121, 3) := by decide +kernel
theorem dX12_wedOnes_20 : decode cX12_wedOnes 20 = .ok (.iconst (-1), 1) := by decide +kernel
theorem dX12_wedOnes_21 : decode cX12_wedOnes 21 = .ok (.if_icmp .eq 9, 3) := by decide +kernel
theorem dX12_wedOnes_24 : decode cX12_wedOnes 24 = .ok (.iconst 1, 1) := by decide +kernel
theorem dX12_wedOnes_25 : decode cX12_wedOnes 25 = .ok (.iload_n 2, 1) := by decide +kernel
theorem dX12_wedOnes_26 : decode cX12_wedOnes 26 = .ok (.ishl, 1) := by decide +kernel
theorem dX12_wedOnes_27 : decode cX12_wedOnes 27 = .ok (.goto 4, 3) := by decide +kernel
theorem dX12_wedOnes_30 : decode cX12_wedOnes 30 = .ok (.iconst 0, 1) := by decide +kernel
theorem dX12_wedOnes_31 : decode cX12_wedOnes 31 = .ok (.ior, 1) := by decide +kernel
theorem dX12_wedOnes_32 : decode cX12_wedOnes 32 = .ok (.istore_n 1, 1) := by decide +kernel
theorem dX12_wedOnes_33 : decode cX12_wedOnes 33 = .ok (.iinc 2 1, 3) := by decide +kernel
theorem dX12_wedOnes_36 : decode cX12_wedOnes 36 = .ok (.goto (-32), 3) := by decide +kernel
theorem dX12_wedOnes_39 : decode cX12_wedOnes 39 = .ok (.iload_n 1, 1) := by decide +kernel
theorem dX12_wedOnes_40 : decode cX12_wedOnes 40 = .ok (.ireturn, 1) := by decide +kernel
theorem dX12_count_0 : decode cX12_count 0 = .ok (.aload_n 0, 1) := by decide +kernel
theorem dX12_count_1 : decode cX12_count 1 = .ok (.iconst 0, 1) := by decide +kernel
theorem dX12_count_2 : decode cX12_count 2 = .ok (.putfield 51, 3) := by decide +kernel
theorem dX12_count_5 : decode cX12_count 5 = .ok (.iload_n 1, 1) := by decide +kernel
theorem dX12_count_6 : decode cX12_count 6 = .ok (.ifCond .ne 10, 3) := by decide +kernel
theorem dX12_count_9 : decode cX12_count 9 = .ok (.aload_n 0, 1) := by decide +kernel
theorem dX12_count_10 : decode cX12_count 10 = .ok (.getfield 7, 3) := by decide +kernel
theorem dX12_count_13 : decode cX12_count 13 = .ok (.iconst 3, 1) := by decide +kernel
theorem dX12_count_14 : decode cX12_count 14 = .ok (.iaload, 1) := by decide +kernel
theorem dX12_count_15 : decode cX12_count 15 = .ok (.ireturn, 1) := by decide +kernel
theorem dX12_count_16 : decode cX12_count 16 = .ok (.iload_n 1, 1) := by decide +kernel
theorem dX12_count_17 : decode cX12_count 17 = .ok (.iconst 1, 1) := by decide +kernel
theorem dX12_count_18 : decode cX12_count 18 = .ok (.if_icmp .ne 10, 3) := by decide +kernel
theorem dX12_count_21 : decode cX12_count 21 = .ok (.aload_n 0, 1) := by decide +kernel
theorem dX12_count_22 : decode cX12_count 22 = .ok (.getfield 7, 3) := by decide +kernel
theorem dX12_count_25 : decode cX12_count 25 = .ok (.iconst 4, 1) := by decide +kernel
theorem dX12_count_26 : decode cX12_count 26 = .ok (.iaload, 1) := by decide +kernel
theorem dX12_count_27 : decode cX12_count 27 = .ok (.ireturn, 1) := by decide +kernel
theorem dX12_count_28 : decode cX12_count 28 = .ok (.iload_n 1, 1) := by decide +kernel
theorem dX12_count_29 : decode cX12_count 29 = .ok (.iconst 2, 1) := by decide +kernel
theorem dX12_count_30 : decode cX12_count 30 = .ok (.if_icmp .ne 10, 3) := by decide +kernel
theorem dX12_count_33 : decode cX12_count 33 = .ok (.aload_n 0, 1) := by decide +kernel
theorem dX12_count_34 : decode cX12_count 34 = .ok (.getfield 7, 3) := by decide +kernel
theorem dX12_count_37 : decode cX12_count 37 = .ok (.iconst 0, 1) := by decide +kernel
theorem dX12_count_38 : decode cX12_count 38 = .ok (.iaload, 1) := by decide +kernel
theorem dX12_count_39 : decode cX12_count 39 = .ok (.ireturn, 1) := by decide +kernel
theorem dX12_count_40 : decode cX12_count 40 = .ok (.iload_n 1, 1) := by decide +kernel
theorem dX12_count_41 : decode cX12_count 41 = .ok (.iconst 3, 1) := by decide +kernel
theorem dX12_count_42 : decode cX12_count 42 = .ok (.if_icmp .ne 10, 3) := by decide +kernel
theorem dX12_count_45 : decode cX12_count 45 = .ok (.aload_n 0, 1) := by decide +kernel
theorem dX12_count_46 : decode cX12_count 46 = .ok (.getfield 7, 3) := by decide +kernel
theorem dX12_count_49 : decode cX12_count 49 = .ok (.iconst 1, 1) := by decide +kernel
theorem dX12_count_50 : decode cX12_count 50 = .ok (.iaload, 1) := by decide +kernel
theorem dX12_count_51 : decode cX12_count 51 = .ok (.ireturn, 1) := by decide +kernel
theorem dX12_count_52 : decode cX12_count 52 = .ok (.iload_n 1, 1) := by decide +kernel
theorem dX12_count_53 : decode cX12_count 53 = .ok (.iconst 4, 1) := by decide +kernel
theorem dX12_count_54 : decode cX12_count 54 = .ok (.if_icmp .ne 11, 3) := by decide +kernel
theorem dX12_count_57 : decode cX12_count 57 = .ok (.aload_n 0, 1) := by decide +kernel
theorem dX12_count_58 : decode cX12_count 58 = .ok (.getfield 7, 3) := by decide +kernel
theorem dX12_count_61 : decode cX12_count 61 = .ok (.bipush 8, 2) := by decide +kernel
theorem dX12_count_63 : decode cX12_count 63 = .ok (.iaload, 1) := by decide +kernel
theorem dX12_count_64 : decode cX12_count 64 = .ok (.ireturn, 1) := by decide +kernel
theorem dX12_count_65 : decode cX12_count 65 = .ok (.iload_n 1, 1) := by decide +kernel
theorem dX12_count_66 : decode cX12_count 66 = .ok (.iconst 5, 1) := by decide +kernel
theorem dX12_count_67 : decode cX12_count 67 = .ok (.if_icmp .ne 11, 3) := by decide +kernel
theorem dX12_count_70 : decode cX12_count 70 = .ok (.aload_n 0, 1) := by decide +kernel
theorem dX12_count_71 : decode cX12_count 71 = .ok (.getfield 7, 3) := by decide +kernel
theorem dX12_count_74 : decode cX12_count 74 = .ok (.bipush 9, 2) := by decide +kernel
theorem dX12_count_76 : decode cX12_count 76 = .ok (.iaload, 1) := by decide +kernel
theorem dX12_count_77 : decode cX12_count 77 = .ok (.ireturn, 1) := by decide +kernel
theorem dX12_count_78 : decode cX12_count 78 = .ok (.iload_n 1, 1) := by decide +kernel
theorem dX12_count_79 : decode cX12_count 79 = .ok (.bipush 6, 2) := by decide +kernel
theorem dX12_count_81 : decode cX12_count 81 = .ok (.bipush 8, 2) := by decide +kernel
theorem dX12_count_83 : decode cX12_count 83 = .ok (.invokestatic 54, 3) := by decide +kernel
theorem dX12_count_86 : decode cX12_count 86 = .ok (.ifCond .eq 15, 3) := by decide +kernel
theorem dX12_count_89 : decode cX12_count 89 = .ok (.aload_n 0, 1) := by decide +kernel
theorem dX12_count_90 : decode cX12_count 90 = .ok (.getfield 7, 3) := by decide +kernel
theorem dX12_count_93 : decode cX12_count 93 = .ok (.iconst 5, 1) := by decide +kernel
theorem dX12_count_94 : decode cX12_count 94 = .ok (.iload_n 1, 1) := by decide +kernel
theorem dX12_count_95 : decode cX12_count 95 = .ok (.iadd, 1) := by decide +kernel
theorem dX12_count_96 : decode cX12_count 96 = .ok (.bipush 6, 2) := by decide +kernel
theorem dX12_count_98 : decode cX12_count 98 = .ok (.isub, 1) := by decide +kernel
theorem dX12_count_99 : decode cX12_count 99 = .ok (.iaload, 1) := by decide +kernel
theorem dX12_count_100 : decode cX12_count 100 = .ok (.ireturn, 1) := by decide +kernel
theorem dX12_count_101 : decode cX12_count 101 = .ok (.iload_n 1, 1) := by decide +kernel
theorem dX12_count_102 : decode cX12_count 102 = .ok (.bipush 9, 2) := by decide +kernel
theorem dX12_count_104 : decode cX12_count 104 = .ok (.if_icmp .ne 8, 3) := by decide +kernel
theorem dX12_count_107 : decode cX12_count 107 = .ok (.aload_n 0, 1) := by decide +kernel
theorem dX12_count_108 : decode cX12_count 108 = .ok (.invokevirtual 299, 3) := by decide +kernel
theorem dX12_count_111 : decode cX12_count 111 = .ok (.ireturn, 1) := by decide +kernel
theorem dX12_count_112 : decode cX12_count 112 = .ok (.iload_n 1, 1) := by decide +kernel
theorem dX12_count_113 : decode cX12_count 113 = .ok (.bipush 10, 2) := by decide +kernel
theorem dX12_count_115 : decode cX12_count 115 = .ok (.if_icmp .ne 8, 3) := by decide +kernel
theorem dX12_count_118 : decode cX12_count 118 = .ok (.aload_n 0, 1) := by decide +kernel
theorem dX12_count_119 : decode cX12_count 119 = .ok (.invokevirtual 366, 3) := by decide +kernel
theorem dX12_count_122 : decode cX12_count 122 = .ok (.ireturn, 1) := by decide +kernel
theorem dX12_count_123 : decode cX12_count 123 = .ok (.iload_n 1, 1) := by decide +kernel
theorem dX12_count_124 : decode cX12_count 124 = .ok (.bipush 11, 2) := by decide +kernel
theorem dX12_count_126 : decode cX12_count 126 = .ok (.if_icmp .ne 8, 3) := by decide +kernel
theorem dX12_count_129 : decode cX12_count 129 = .ok (.aload_n 0, 1) := by decide +kernel
theorem dX12_count_130 : decode cX12_count 130 = .ok (.invokevirtual 375, 3) := by decide +kernel
theorem dX12_count_133 : decode cX12_count 133 = .ok (.ireturn, 1) := by decide +kernel
theorem dX12_count_134 : decode cX12_count 134 = .ok (.iload_n 1, 1) := by decide +kernel
theorem dX12_count_135 : decode cX12_count 135 = .ok (.bipush 12, 2) := by decide +kernel
theorem dX12_count_137 : decode cX12_count 137 = .ok (.if_icmp .ne 11, 3) := by decide +kernel
theorem dX12_count_140 : decode cX12_count 140 = .ok (.aload_n 0, 1) := by decide +kernel
theorem dX12_count_141 : decode cX12_count 141 = .ok (.getfield 7, 3) := by decide +kernel
theorem dX12_count_144 : decode cX12_count 144 = .ok (.bipush 10, 2) := by decide +kernel
theorem dX12_count_146 : decode cX12_count 146 = .ok (.iaload, 1) := by decide +kernel
theorem dX12_count_147 : decode cX12_count 147 = .ok (.ireturn, 1) := by decide +kernel
theorem dX12_count_148 : decode cX12_count 148 = .ok (.iload_n 1, 1) := by decide +kernel
theorem dX12_count_149 : decode cX12_count 149 = .ok (.bipush 13, 2) := by decide +kernel
theorem dX12_count_151 : decode cX12_count 151 = .ok (.if_icmp .ne 11, 3) := by decide +kernel
theorem dX12_count_154 : decode cX12_count 154 = .ok (.aload_n 0, 1) := by decide +kernel
theorem dX12_count_155 : decode cX12_count 155 = .ok (.getfield 7, 3) := by decide +kernel
theorem dX12_count_158 : decode cX12_count 158 = .ok (.bipush 11, 2) := by decide +kernel
theorem dX12_count_160 : decode cX12_count 160 = .ok (.iaload, 1) := by decide +kernel
theorem dX12_count_161 : decode cX12_count 161 = .ok (.ireturn, 1) := by decide +kernel
theorem dX12_count_162 : decode cX12_count 162 = .ok (.iload_n 1, 1) := by decide +kernel
theorem dX12_count_163 : decode cX12_count 163 = .ok (.bipush 14, 2) := by decide +kernel
theorem dX12_count_165 : decode cX12_count 165 = .ok (.if_icmp .ne 10, 3) := by decide +kernel
theorem dX12_count_168 : decode cX12_count 168 = .ok (.aload_n 0, 1) := by decide +kernel
theorem dX12_count_169 : decode cX12_count 169 = .ok (.getfield 201, 3) := by decide +kernel
theorem dX12_count_172 : decode cX12_count 172 = .ok (.goto 4, 3) := by decide +kernel
theorem dX12_count_175 : decode cX12_count 175 = .ok (.iconst (-1), 1) := by decide +kernel
theorem dX12_count_176 : decode cX12_count 176 = .ok (.ireturn, 1) := by decide +kernel
theorem dJ6_bitCount_0f7a4_0 : decode cJ6_bitCount_0f7a4 0 = .ok (.iload_n 0, 1) := by decide +kernel
theorem dJ6_bitCount_0f7a4_1 : decode cJ6_bitCount_0f7a4 1 = .ok (.iload_n 0, 1) := by decide +kernel
theorem dJ6_bitCount_0f7a4_2 : decode cJ6_bitCount_0f7a4 2 = .ok (.iconst 1, 1) := by decide +kernel
theorem dJ6_bitCount_0f7a4_3 : decode cJ6_bitCount_0f7a4 3 = .ok (.iushr, 1) := by decide +kernel
theorem dJ6_bitCount_0f7a4_4 : decode cJ6_bitCount_0f7a4 4 = .ok (.ldc_w 265, 3) := by decide +kernel
theorem dJ6_bitCount_0f7a4_7 : decode cJ6_bitCount_0f7a4 7 = .ok (.iand, 1) := by decide +kernel
theorem dJ6_bitCount_0f7a4_8 : decode cJ6_bitCount_0f7a4 8 = .ok (.isub, 1) := by decide +kernel
theorem dJ6_bitCount_0f7a4_9 : decode cJ6_bitCount_0f7a4 9 = .ok (.istore_n 0, 1) := by decide +kernel
theorem dJ6_bitCount_0f7a4_10 : decode cJ6_bitCount_0f7a4 10 = .ok (.iload_n 0, 1) := by decide +kernel
theorem dJ6_bitCount_0f7a4_11 : decode cJ6_bitCount_0f7a4 11 = .ok (.ldc_w 266, 3) := by decide +kernel
theorem dJ6_bitCount_0f7a4_14 : decode cJ6_bitCount_0f7a4 14 = .ok (.iand, 1) := by decide +kernel
theorem dJ6_bitCount_0f7a4_15 : decode cJ6_bitCount_0f7a4 15 = .ok (.iload_n 0, 1) := by decide +kernel
theorem dJ6_bitCount_0f7a4_16 : decode cJ6_bitCount_0f7a4 16 = .ok (.iconst 2, 1) := by decide +kernel
theorem dJ6_bitCount_0f7a4_17 : decode cJ6_bitCount_0f7a4 17 = .ok (.iushr, 1) := by decide +kernel
theorem dJ6_bitCount_0f7a4_18 : decode cJ6_bitCount_0f7a4 18 = .ok (.ldc_w 266, 3) := by decide +kernel
theorem dJ6_bitCount_0f7a4_21 : decode cJ6_bitCount_0f7a4 21 = .ok (.iand, 1) := by decide +kernel
theorem dJ6_bitCount_0f7a4_22 : decode cJ6_bitCount_0f7a4 22 = .ok (.iadd, 1) := by decide +kernel
theorem dJ6_bitCount_0f7a4_23 : decode cJ6_bitCount_0f7a4 23 = .ok (.istore_n 0, 1) := by decide +kernel
theorem dJ6_bitCount_0f7a4_24 : decode cJ6_bitCount_0f7a4 24 = .ok (.iload_n 0, 1) := by decide +kernel
theorem dJ6_bitCount_0f7a4_25 : decode cJ6_bitCount_0f7a4 25 = .ok (.iload_n 0, 1) := by decide +kernel
theorem dJ6_bitCount_0f7a4_26 : decode cJ6_bitCount_0f7a4 26 = .ok (.iconst 4, 1) := by decide +kernel
theorem dJ6_bitCount_0f7a4_27 : decode cJ6_bitCount_0f7a4 27 = .ok (.iushr, 1) := by decide +kernel
theorem dJ6_bitCount_0f7a4_28 : decode cJ6_bitCount_0f7a4 28 = .ok (.iadd, 1) := by decide +kernel
theorem dJ6_bitCount_0f7a4_29 : decode cJ6_bitCount_0f7a4 29 = .ok (.ldc_w 267, 3) := by decide +kernel
theorem dJ6_bitCount_0f7a4_32 : decode cJ6_bitCount_0f7a4 32 = .ok (.iand, 1) := by decide +kernel
theorem dJ6_bitCount_0f7a4_33 : decode cJ6_bitCount_0f7a4 33 = .ok (.istore_n 0, 1) := by decide +kernel
theorem dJ6_bitCount_0f7a4_34 : decode cJ6_bitCount_0f7a4 34 = .ok (.iload_n 0, 1) := by decide +kernel
theorem dJ6_bitCount_0f7a4_35 : decode cJ6_bitCount_0f7a4 35 = .ok (.iload_n 0, 1) := by decide +kernel
theorem dJ6_bitCount_0f7a4_36 : decode cJ6_bitCount_0f7a4 36 = .ok (.bipush 8, 2) := by decide +kernel
theorem dJ6_bitCount_0f7a4_38 : decode cJ6_bitCount_0f7a4 38 = .ok (.iushr, 1) := by decide +kernel
theorem dJ6_bitCount_0f7a4_39 : decode cJ6_bitCount_0f7a4 39 = .ok (.iadd, 1) := by decide +kernel
theorem dJ6_bitCount_0f7a4_40 : decode cJ6_bitCount_0f7a4 40 = .ok (.istore_n 0, 1) := by decide +kernel
theorem dJ6_bitCount_0f7a4_41 : decode cJ6_bitCount_0f7a4 41 = .ok (.iload_n 0, 1) := by decide +kernel
theorem dJ6_bitCount_0f7a4_42 : decode cJ6_bitCount_0f7a4 42 = .ok (.iload_n 0, 1) := by decide +kernel
theorem dJ6_bitCount_0f7a4_43 : decode cJ6_bitCount_0f7a4 43 = .ok (.bipush 16, 2) := by decide +kernel
theorem dJ6_bitCount_0f7a4_45 : decode cJ6_bitCount_0f7a4 45 = .ok (.iushr, 1) := by decide +kernel
theorem dJ6_bitCount_0f7a4_46 : decode cJ6_bitCount_0f7a4 46 = .ok (.iadd, 1) := by decide +kernel
theorem dJ6_bitCount_0f7a4_47 : decode cJ6_bitCount_0f7a4 47 = .ok (.istore_n 0, 1) := by decide +kernel
theorem dJ6_bitCount_0f7a4_48 : decode cJ6_bitCount_0f7a4 48 = .ok (.iload_n 0, 1) := by decide +kernel
theorem dJ6_bitCount_0f7a4_49 : decode cJ6_bitCount_0f7a4 49 = .ok (.bipush 63, 2) := by decide +kernel
theorem dJ6_bitCount_0f7a4_51 : decode cJ6_bitCount_0f7a4 51 = .ok (.iand, 1) := by decide +kernel
theorem dJ6_bitCount_0f7a4_52 : decode cJ6_bitCount_0f7a4 52 = .ok (.ireturn, 1) := by decide +kernel
theorem dJ9_max_7cf53_0 : decode cJ9_max_7cf53 0 = .ok (.iload_n 0, 1) := by decide +kernel
theorem dJ9_max_7cf53_1 : decode cJ9_max_7cf53 1 = .ok (.iload_n 1, 1) := by decide +kernel
theorem dJ9_max_7cf53_2 : decode cJ9_max_7cf53 2 = .ok (.if_icmp .lt 7, 3) := by decide +kernel
theorem dJ9_max_7cf53_5 : decode cJ9_max_7cf53 5 = .ok (.iload_n 0, 1) := by decide +kernel
theorem dJ9_max_7cf53_6 : decode cJ9_max_7cf53 6 = .ok (.goto 4, 3) := by decide +kernel
theorem dJ9_max_7cf53_9 : decode cJ9_max_7cf53 9 = .ok (.iload_n 1, 1) := by decide +kernel
theorem dJ9_max_7cf53_10 : decode cJ9_max_7cf53 10 = .ok (.ireturn, 1) := by decide +kernel
theorem dJ9_min_7cf53_0 : decode cJ9_min_7cf53 0 = .ok (.iload_n 0, 1) := by decide +kernel
theorem dJ9_min_7cf53_1 : decode cJ9_min_7cf53 1 = .ok (.iload_n 1, 1) := by decide +kernel
theorem dJ9_min_7cf53_2 : decode cJ9_min_7cf53 2 = .ok (.if_icmp .gt 7, 3) := by decide +kernel
theorem dJ9_min_7cf53_5 : decode cJ9_min_7cf53 5 = .ok (.iload_n 0, 1) := by decide +kernel
theorem dJ9_min_7cf53_6 : decode cJ9_min_7cf53 6 = .ok (.goto 4, 3) := by decide +kernel
theorem dJ9_min_7cf53_9 : decode cJ9_min_7cf53 9 = .ok (.iload_n 1, 1) := by decide +kernel
theorem dJ9_min_7cf53_10 : decode cJ9_min_7cf53 10 = .ok (.ireturn, 1) := by decide +kernel
theorem dJ0_length_8abf5_0 : decode cJ0_length_8abf5 0 = .ok (.aload_n 0, 1) := by decide +kernel
theorem dJ0_length_8abf5_1 : decode cJ0_length_8abf5 1 = .ok (.getfield 9, 3) := by decide +kernel
theorem dJ0_length_8abf5_4 : decode cJ0_length_8abf5 4 = .ok (.arraylength, 1) := by decide +kernel
theorem dJ0_length_8abf5_5 : decode cJ0_length_8abf5 5 = .ok (.aload_n 0, 1) := by decide +kernel
theorem dJ0_length_8abf5_6 : decode cJ0_length_8abf5 6 = .ok (.invokevirtual 335, 3) := by decide +kernel
theorem dJ0_length_8abf5_9 : decode cJ0_length_8abf5 9 = .ok (.ishr, 1) := by decide +kernel
theorem dJ0_length_8abf5_10 : decode cJ0_length_8abf5 10 = .ok (.ireturn, 1) := by decide +kernel
theorem dJ0_charAt_5068e_0 : decode cJ0_charAt_5068e 0 = .ok (.aload_n 0, 1) := by decide +kernel
theorem dJ0_charAt_5068e_1 : decode cJ0_charAt_5068e 1 = .ok (.invokevirtual 492, 3) := by decide +kernel
theorem dJ0_charAt_5068e_4 : decode cJ0_charAt_5068e 4 = .ok (.ifCond .eq 12, 3) := by decide +kernel
theorem dJ0_charAt_5068e_7 : decode cJ0_charAt_5068e 7 = .ok (.aload_n 0, 1) := by decide +kernel
theorem dJ0_charAt_5068e_8 : decode cJ0_charAt_5068e 8 = .ok (.getfield 9, 3) := by decide +kernel
theorem dJ0_charAt_5068e_11 : decode cJ0_charAt_5068e 11 = .ok (.iload_n 1, 1) := by decide +kernel
theorem dJ0_charAt_5068e_12 : decode cJ0_charAt_5068e 12 = .ok (.invokestatic 495, 3) := by decide +kernel
theorem dJ0_charAt_5068e_15 : decode cJ0_charAt_5068e 15 = .ok (.ireturn, 1) := by decide +kernel
theorem dJ0_charAt_5068e_16 : decode cJ0_charAt_5068e 16 = .ok (.aload_n 0, 1) := by decide +kernel
theorem dJ0_charAt_5068e_17 : decode cJ0_charAt_5068e 17 = .ok (.getfield 9, 3) := by decide +kernel
theorem dJ0_charAt_5068e_20 : decode cJ0_charAt_5068e 20 = .ok (.iload_n 1, 1) := by decide +kernel
theorem dJ0_charAt_5068e_21 : decode cJ0_charAt_5068e 21 = .ok (.invokestatic 498, 3) := by decide +kernel
theorem dJ0_charAt_5068e_24 : decode cJ0_charAt_5068e 24 = .ok (.ireturn, 1) := by decide +kernel
theorem dJ0_coder_7d493_0 : decode cJ0_coder_7d493 0 = .ok (.getstatic 38, 3) := by decide +kernel
theorem dJ0_coder_7d493_3 : decode cJ0_coder_7d493 3 = .ok (.ifCond .eq 10, 3) := by decide +kernel
theorem dJ0_coder_7d493_6 : decode cJ0_coder_7d493 6 = .ok (.aload_n 0, 1) := by decide +kernel
theorem dJ0_coder_7d493_7 : decode cJ0_coder_7d493 7 = .ok (.getfield 15, 3) := by decide +kernel
theorem dJ0_coder_7d493_10 : decode cJ0_coder_7d493 10 = .ok (.goto 4, 3) := by decide +kernel
theorem dJ0_coder_7d493_13 : decode cJ0_coder_7d493 13 = .ok (.iconst 1, 1) := by decide +kernel
theorem dJ0_coder_7d493_14 : decode cJ0_coder_7d493 14 = .ok (.ireturn, 1) := by decide +kernel
theorem dJ0_isLatin1_aae02_0 : decode cJ0_isLatin1_aae02 0 = .ok (.getstatic 38, 3) := by decide +kernel
theorem dJ0_isLatin1_aae02_3 : decode cJ0_isLatin1_aae02 3 = .ok (.ifCond .eq 14, 3) := by decide +kernel
theorem dJ0_isLatin1_aae02_6 : decode cJ0_isLatin1_aae02 6 = .ok (.aload_n 0, 1) := by decide +kernel
theorem dJ0_isLatin1_aae02_7 : decode cJ0_isLatin1_aae02 7 = .ok (.getfield 15, 3) := by decide +kernel
theorem dJ0_isLatin1_aae02_10 : decode cJ0_isLatin1_aae02 10 = .ok (.ifCond .ne 7, 3) := by decide +kernel
theorem dJ0_isLatin1_aae02_13 : decode cJ0_isLatin1_aae02 13 = .ok (.iconst 1, 1) := by decide +kernel
theorem dJ0_isLatin1_aae02_14 : decode cJ0_isLatin1_aae02 14 = .ok (.goto 4, 3) := by decide +kernel
theorem dJ0_isLatin1_aae02_17 : decode cJ0_isLatin1_aae02 17 = .ok (.iconst 0, 1) := by decide +kernel
theorem dJ0_isLatin1_aae02_18 : decode cJ0_isLatin1_aae02 18 = .ok (.ireturn, 1) := by decide +kernel
theorem dJ0_checkIndex_df160_0 : decode cJ0_checkIndex_df160 0 = .ok (.iload_n 0, 1) := by decide +kernel
theorem dJ0_checkIndex_df160_1 : decode cJ0_checkIndex_df160 1 = .ok (.iload_n 1, 1) := by decide +kernel
theorem dJ0_checkIndex_df160_2 : decode cJ0_checkIndex_df160 2 = .ok (.getstatic 1053, 3) := by decide +kernel
theorem dJ0_checkIndex_df160_5 : decode cJ0_checkIndex_df160 5 = .ok (.invokestatic 1059, 3) := by decide +kernel
theorem dJ0_checkIndex_df160_8 : decode cJ0_checkIndex_df160 8 = .ok (.pop, 1) := by decide +kernel
theorem dJ0_checkIndex_df160_9 : decode cJ0_checkIndex_df160 9 = .ok (.return_, 1) := by decide +kernel
theorem dJ1_charAt_3b067_0 : decode cJ1_charAt_3b067 0 = .ok (.iload_n 1, 1) := by decide +kernel
theorem dJ1_charAt_3b067_1 : decode cJ1_charAt_3b067 1 = .ok (.aload_n 0, 1) := by decide +kernel
theorem dJ1_charAt_3b067_2 : decode cJ1_charAt_3b067 2 = .ok (.arraylength, 1) := by decide +kernel
theorem dJ1_charAt_3b067_3 : decode cJ1_charAt_3b067 3 = .ok (.invokestatic 9, 3) := by decide +kernel
theorem dJ1_charAt_3b067_6 : decode cJ1_charAt_3b067 6 = .ok (.aload_n 0, 1) := by decide +kernel
theorem dJ1_charAt_3b067_7 : decode cJ1_charAt_3b067 7 = .ok (.iload_n 1, 1) := by decide +kernel
theorem dJ1_charAt_3b067_8 : decode cJ1_charAt_3b067 8 = .ok (.baload, 1) := by decide +kernel
theorem dJ1_charAt_3b067_9 : decode cJ1_charAt_3b067 9 = .ok (.sipush 255, 3) := by decide +kernel
theorem dJ1_charAt_3b067_12 : decode cJ1_charAt_3b067 12 = .ok (.iand, 1) := by decide +kernel
theorem dJ1_charAt_3b067_13 : decode cJ1_charAt_3b067 13 = .ok (.i2c, 1) := by decide +kernel
theorem dJ1_charAt_3b067_14 : decode cJ1_charAt_3b067 14 = .ok (.ireturn, 1) := by decide +kernel
theorem dJ2_getChar_3b067_0 : decode cJ2_getChar_3b067 0 = .ok (.getstatic 44, 3) := by decide +kernel
theorem dJ2_getChar_3b067_3 : decode cJ2_getChar_3b067 3 = .ok (.ifCond .ne 25, 3) := by decide +kernel
theorem dJ2_getChar_3b067_6 : decode cJ2_getChar_3b067 6 = .ok (.iload_n 1, 1) := by decide +kernel
theorem dJ2_getChar_3b067_7 : decode cJ2_getChar_3b067 7 = .ok (.ifCond .lt 11, 3) := by decide +kernel
theorem dJ2_getChar_3b067_10 : decode cJ2_getChar_3b067 10 = .ok (.iload_n 1, 1) := by decide +kernel
theorem dJ2_getChar_3b067_11 : decode cJ2_getChar_3b067 11 = .ok (.aload_n 0, 1) := by decide +kernel
theorem dJ2_getChar_3b067_12 : decode cJ2_getChar_3b067 12 = .ok (.invokestatic 48, 3) := by decide +kernel
theorem dJ2_getChar_3b067_15 : decode cJ2_getChar_3b067 15 = .ok (.if_icmp .lt 13, 3) := by decide +kernel
theorem dJ2_getChar_3b067_18 : decode cJ2_getChar_3b067 18 = .ok (.new 52, 3) := by decide +kernel
theorem dJ2_getChar_3b067_21 : decode cJ2_getChar_3b067 21 = .ok (.dup, 1) := by decide +kernel
theorem dJ2_getChar_3b067_22 : decode cJ2_getChar_3b067 22 = .ok (.ldc 54, 2) := by decide +kernel
theorem dJ2_getChar_3b067_24 : decode cJ2_getChar_3b067 24 = .ok (.invokespecial 56, 3) := by decide +kernel
theorem dJ2_getChar_3b067_27 : decode cJ2_getChar_3b067 27 = .ok (.athrow, 1) := by decide +kernel
theorem dJ2_getChar_3b067_28 : decode cJ2_getChar_3b067 28 = .ok (.iload_n 1, 1) := by decide +kernel
theorem dJ2_getChar_3b067_29 : decode cJ2_getChar_3b067 29 = .ok (.iconst 1, 1) := by decide +kernel
theorem dJ2_getChar_3b067_30 : decode cJ2_getChar_3b067 30 = .ok (.ishl, 1) := by decide +kernel
theorem dJ2_getChar_3b067_31 : decode cJ2_getChar_3b067 31 = .ok (.istore_n 1, 1) := by decide +kernel
theorem dJ2_getChar_3b067_32 : decode cJ2_getChar_3b067 32 = .ok (.aload_n 0, 1) := by decide +kernel
theorem dJ2_getChar_3b067_33 : decode cJ2_getChar_3b067 33 = .ok (.iload_n 1, 1) := by decide +kernel
theorem dJ2_getChar_3b067_34 : decode cJ2_getChar_3b067 34 = .ok (.iinc 1 1, 3) := by decide +kernel
theorem dJ2_getChar_3b067_37 : decode cJ2_getChar_3b067 37 = .ok (.baload, 1) := by decide +kernel
theorem dJ2_getChar_3b067_38 : decode cJ2_getChar_3b067 38 = .ok (.sipush 255, 3) := by decide +kernel
theorem dJ2_getChar_3b067_41 : decode cJ2_getChar_3b067 41 = .ok (.iand, 1) := by decide +kernel
theorem dJ2_getChar_3b067_42 : decode cJ2_getChar_3b067 42 = .ok (.getstatic 59, 3) := by decide +kernel
theorem dJ2_getChar_3b067_45 : decode cJ2_getChar_3b067 45 = .ok (.ishl, 1) := by decide +kernel
theorem dJ2_getChar_3b067_46 : decode cJ2_getChar_3b067 46 = .ok (.aload_n 0, 1) := by decide +kernel
theorem dJ2_getChar_3b067_47 : decode cJ2_getChar_3b067 47 = .ok (.iload_n 1, 1) := by decide +kernel
theorem dJ2_getChar_3b067_48 : decode cJ2_getChar_3b067 48 = .ok (.baload, 1) := by decide +kernel
theorem dJ2_getChar_3b067_49 : decode cJ2_getChar_3b067 49 = .ok (.sipush 255, 3) := by decide +kernel
theorem dJ2_getChar_3b067_52 : decode cJ2_getChar_3b067 52 = .ok (.iand, 1) := by decide +kernel
theorem dJ2_getChar_3b067_53 : decode cJ2_getChar_3b067 53 = .ok (.getstatic 63, 3) := by decide +kernel
theorem dJ2_getChar_3b067_56 : decode cJ2_getChar_3b067 56 = .ok (.ishl, 1) := by decide +kernel
theorem dJ2_getChar_3b067_57 : decode cJ2_getChar_3b067 57 = .ok (.ior, 1) := by decide +kernel
theorem dJ2_getChar_3b067_58 : decode cJ2_getChar_3b067 58 = .ok (.i2c, 1) := by decide +kernel
theorem dJ2_getChar_3b067_59 : decode cJ2_getChar_3b067 59 = .ok (.ireturn, 1) := by decide +kernel
theorem dJ2_length_9d52b_0 : decode cJ2_length_9d52b 0 = .ok (.aload_n 0, 1) := by decide +kernel
theorem dJ2_length_9d52b_1 : decode cJ2_length_9d52b 1 = .ok (.arraylength, 1) := by decide +kernel
theorem dJ2_length_9d52b_2 : decode cJ2_length_9d52b 2 = .ok (.iconst 1, 1) := by decide +kernel
theorem dJ2_length_9d52b_3 : decode cJ2_length_9d52b 3 = .ok (.ishr, 1) := by decide +kernel
theorem dJ2_length_9d52b_4 : decode cJ2_length_9d52b 4 = .ok (.ireturn, 1) := by decide +kernel
theorem dJ2_charAt_3b067_0 : decode cJ2_charAt_3b067 0 = .ok (.iload_n 1, 1) := by decide +kernel
theorem dJ2_charAt_3b067_1 : decode cJ2_charAt_3b067 1 = .ok (.aload_n 0, 1) := by decide +kernel
theorem dJ2_charAt_3b067_2 : decode cJ2_charAt_3b067 2 = .ok (.invokestatic 67, 3) := by decide +kernel
theorem dJ2_charAt_3b067_5 : decode cJ2_charAt_3b067 5 = .ok (.aload_n 0, 1) := by decide +kernel
theorem dJ2_charAt_3b067_6 : decode cJ2_charAt_3b067 6 = .ok (.iload_n 1, 1) := by decide +kernel
theorem dJ2_charAt_3b067_7 : decode cJ2_charAt_3b067 7 = .ok (.invokestatic 71, 3) := by decide +kernel
theorem dJ2_charAt_3b067_10 : decode cJ2_charAt_3b067 10 = .ok (.ireturn, 1) := by decide +kernel
theorem dJ2_checkIndex_2214a_0 : decode cJ2_checkIndex_2214a 0 = .ok (.iload_n 0, 1) := by decide +kernel
theorem dJ2_checkIndex_2214a_1 : decode cJ2_checkIndex_2214a 1 = .ok (.aload_n 1, 1) := by decide +kernel
theorem dJ2_checkIndex_2214a_2 : decode cJ2_checkIndex_2214a 2 = .ok (.invokestatic 48, 3) := by decide +kernel
theorem dJ2_checkIndex_2214a_5 : decode cJ2_checkIndex_2214a 5 = .ok (.invokestatic 414, 3) := by decide +kernel
theorem dJ2_checkIndex_2214a_8 : decode cJ2_checkIndex_2214a 8 = .ok (.return_, 1) := by decide +kernel
theorem dJ3_checkIndex_8e157_0 : decode cJ3_checkIndex_8e157 0 = .ok (.iload_n 0, 1) := by decide +kernel
theorem dJ3_checkIndex_8e157_1 : decode cJ3_checkIndex_8e157 1 = .ok (.ifCond .lt 8, 3) := by decide +kernel
theorem dJ3_checkIndex_8e157_4 : decode cJ3_checkIndex_8e157 4 = .ok (.iload_n 0, 1) := by decide +kernel
theorem dJ3_checkIndex_8e157_5 : decode cJ3_checkIndex_8e157 5 = .ok (.iload_n 1, 1) := by decide +kernel
theorem dJ3_checkIndex_8e157_6 : decode cJ3_checkIndex_8e157 6 = .ok (.if_icmp .lt 10, 3) := by decide +kernel
theorem dJ3_checkIndex_8e157_9 : decode cJ3_checkIndex_8e157 9 = .ok (.aload_n 2, 1) := by decide +kernel
theorem dJ3_checkIndex_8e157_10 : decode cJ3_checkIndex_8e157 10 = .ok (.iload_n 0, 1) := by decide +kernel
theorem dJ3_checkIndex_8e157_11 : decode cJ3_checkIndex_8e157 11 = .ok (.iload_n 1, 1) := by decide +kernel
theorem dJ3_checkIndex_8e157_12 : decode cJ3_checkIndex_8e157 12 = .ok (.invokestatic 95, 3) := by decide +kernel
theorem dJ3_checkIndex_8e157_15 : decode cJ3_checkIndex_8e157 15 = .ok (.athrow, 1) := by decide +kernel
theorem dJ3_checkIndex_8e157_16 : decode cJ3_checkIndex_8e157 16 = .ok (.iload_n 0, 1) := by decide +kernel
theorem dJ3_checkIndex_8e157_17 : decode cJ3_checkIndex_8e157 17 = .ok (.ireturn, 1) := by decide +kernel
theorem dL_town_0 : decode cL_town 0 = .ok (.aload_n 1, 1) := by decide +kernel
theorem dL_town_1 : decode cL_town 1 = .ok (.iconst 0, 1) := by decide +kernel
theorem dL_town_2 : decode cL_town 2 = .ok (.aload_n 0, 1) := by decide +kernel
theorem dL_town_3 : decode cL_town 3 = .ok (.invokevirtual 7, 3) := by decide +kernel
theorem dL_town_6 : decode cL_town 6 = .ok (.i2l, 1) := by decide +kernel
theorem dL_town_7 : decode cL_town 7 = .ok (.lastore, 1) := by decide +kernel
theorem dL_town_8 : decode cL_town 8 = .ok (.goto 9, 3) := by decide +kernel
theorem dL_town_11 : decode cL_town 11 = .ok (.astore_n 2, 1) := by decide +kernel
theorem dL_town_12 : decode cL_town 12 = .ok (.iconst 1, 1) := by decide +kernel
theorem dL_town_13 : decode cL_town 13 = .ok (.ireturn, 1) := by decide +kernel
theorem dL_town_14 : decode cL_town 14 = .ok (.astore_n 2, 1) := by decide +kernel
theorem dL_town_15 : decode cL_town 15 = .ok (.iconst 2, 1) := by decide +kernel
theorem dL_town_16 : decode cL_town 16 = .ok (.ireturn, 1) := by decide +kernel
theorem dL_town_17 : decode cL_town 17 = .ok (.iconst 0, 1) := by decide +kernel
theorem dL_town_18 : decode cL_town 18 = .ok (.ireturn, 1) := by decide +kernel
theorem dL_law_0 : decode cL_law 0 = .ok (.aload_n 1, 1) := by decide +kernel
theorem dL_law_1 : decode cL_law 1 = .ok (.iconst 0, 1) := by decide +kernel
theorem dL_law_2 : decode cL_law 2 = .ok (.aload_n 0, 1) := by decide +kernel
theorem dL_law_3 : decode cL_law 3 = .ok (.invokevirtual 17, 3) := by decide +kernel
theorem dL_law_6 : decode cL_law 6 = .ok (.i2l, 1) := by decide +kernel
theorem dL_law_7 : decode cL_law 7 = .ok (.lastore, 1) := by decide +kernel
theorem dL_law_8 : decode cL_law 8 = .ok (.goto 6, 3) := by decide +kernel
theorem dL_law_11 : decode cL_law 11 = .ok (.astore_n 2, 1) := by decide +kernel
theorem dL_law_12 : decode cL_law 12 = .ok (.iconst 1, 1) := by decide +kernel
theorem dL_law_13 : decode cL_law 13 = .ok (.ireturn, 1) := by decide +kernel
theorem dL_law_14 : decode cL_law 14 = .ok (.iconst 0, 1) := by decide +kernel
theorem dL_law_15 : decode cL_law 15 = .ok (.ireturn, 1) := by decide +kernel
theorem dL_person_0 : decode cL_person 0 = .ok (.aload_n 3, 1) := by decide +kernel
theorem dL_person_1 : decode cL_person 1 = .ok (.iconst 0, 1) := by decide +kernel
theorem dL_person_2 : decode cL_person 2 = .ok (.aload_n 0, 1) := by decide +kernel
theorem dL_person_3 : decode cL_person 3 = .ok (.iload_n 1, 1) := by decide +kernel
theorem dL_person_4 : decode cL_person 4 = .ok (.iload_n 2, 1) := by decide +kernel
theorem dL_person_5 : decode cL_person 5 = .ok (.invokevirtual 20, 3) := by decide +kernel
theorem dL_person_8 : decode cL_person 8 = .ok (.i2l, 1) := by decide +kernel
theorem dL_person_9 : decode cL_person 9 = .ok (.lastore, 1) := by decide +kernel
theorem dL_person_10 : decode cL_person 10 = .ok (.goto 11, 3) := by decide +kernel
theorem dL_person_13 : decode cL_person 13 = .ok (.astore 4, 2) := by decide +kernel
theorem dL_person_15 : decode cL_person 15 = .ok (.iconst 1, 1) := by decide +kernel
theorem dL_person_16 : decode cL_person 16 = .ok (.ireturn, 1) := by decide +kernel
theorem dL_person_17 : decode cL_person 17 = .ok (.astore 4, 2) := by decide +kernel
theorem dL_person_19 : decode cL_person 19 = .ok (.iconst 2, 1) := by decide +kernel
theorem dL_person_20 : decode cL_person 20 = .ok (.ireturn, 1) := by decide +kernel
theorem dL_person_21 : decode cL_person 21 = .ok (.iconst 0, 1) := by decide +kernel
theorem dL_person_22 : decode cL_person 22 = .ok (.ireturn, 1) := by decide +kernel
theorem dL_liking_0 : decode cL_liking 0 = .ok (.aload_n 3, 1) := by decide +kernel
theorem dL_liking_1 : decode cL_liking 1 = .ok (.iconst 0, 1) := by decide +kernel
theorem dL_liking_2 : decode cL_liking 2 = .ok (.aload_n 0, 1) := by decide +kernel
theorem dL_liking_3 : decode cL_liking 3 = .ok (.iload_n 1, 1) := by decide +kernel
theorem dL_liking_4 : decode cL_liking 4 = .ok (.iload_n 2, 1) := by decide +kernel
theorem dL_liking_5 : decode cL_liking 5 = .ok (.invokevirtual 28, 3) := by decide +kernel
theorem dL_liking_8 : decode cL_liking 8 = .ok (.i2l, 1) := by decide +kernel
theorem dL_liking_9 : decode cL_liking 9 = .ok (.lastore, 1) := by decide +kernel
theorem dL_liking_10 : decode cL_liking 10 = .ok (.goto 11, 3) := by decide +kernel
theorem dL_liking_13 : decode cL_liking 13 = .ok (.astore 4, 2) := by decide +kernel
theorem dL_liking_15 : decode cL_liking 15 = .ok (.iconst 1, 1) := by decide +kernel
theorem dL_liking_16 : decode cL_liking 16 = .ok (.ireturn, 1) := by decide +kernel
theorem dL_liking_17 : decode cL_liking 17 = .ok (.astore 4, 2) := by decide +kernel
theorem dL_liking_19 : decode cL_liking 19 = .ok (.iconst 2, 1) := by decide +kernel
theorem dL_liking_20 : decode cL_liking 20 = .ok (.ireturn, 1) := by decide +kernel
theorem dL_liking_21 : decode cL_liking 21 = .ok (.iconst 0, 1) := by decide +kernel
theorem dL_liking_22 : decode cL_liking 22 = .ok (.ireturn, 1) := by decide +kernel
theorem dL_match_0 : decode cL_match 0 = .ok (.aload_n 3, 1) := by decide +kernel
theorem dL_match_1 : decode cL_match 1 = .ok (.iconst 0, 1) := by decide +kernel
theorem dL_match_2 : decode cL_match 2 = .ok (.aload_n 0, 1) := by decide +kernel
theorem dL_match_3 : decode cL_match 3 = .ok (.iload_n 1, 1) := by decide +kernel
theorem dL_match_4 : decode cL_match 4 = .ok (.iload_n 2, 1) := by decide +kernel
theorem dL_match_5 : decode cL_match 5 = .ok (.invokevirtual 31, 3) := by decide +kernel
theorem dL_match_8 : decode cL_match 8 = .ok (.i2l, 1) := by decide +kernel
theorem dL_match_9 : decode cL_match 9 = .ok (.lastore, 1) := by decide +kernel
theorem dL_match_10 : decode cL_match 10 = .ok (.goto 11, 3) := by decide +kernel
theorem dL_match_13 : decode cL_match 13 = .ok (.astore 4, 2) := by decide +kernel
theorem dL_match_15 : decode cL_match 15 = .ok (.iconst 1, 1) := by decide +kernel
theorem dL_match_16 : decode cL_match 16 = .ok (.ireturn, 1) := by decide +kernel
theorem dL_match_17 : decode cL_match 17 = .ok (.astore 4, 2) := by decide +kernel
theorem dL_match_19 : decode cL_match 19 = .ok (.iconst 2, 1) := by decide +kernel
theorem dL_match_20 : decode cL_match 20 = .ok (.ireturn, 1) := by decide +kernel
theorem dL_match_21 : decode cL_match 21 = .ok (.iconst 0, 1) := by decide +kernel
theorem dL_match_22 : decode cL_match 22 = .ok (.ireturn, 1) := by decide +kernel
theorem dL_ask_0 : decode cL_ask 0 = .ok (.aload_n 3, 1) := by decide +kernel
theorem dL_ask_1 : decode cL_ask 1 = .ok (.iconst 0, 1) := by decide +kernel
theorem dL_ask_2 : decode cL_ask 2 = .ok (.aload_n 0, 1) := by decide +kernel
theorem dL_ask_3 : decode cL_ask 3 = .ok (.iload_n 1, 1) := by decide +kernel
theorem dL_ask_4 : decode cL_ask 4 = .ok (.iload_n 2, 1) := by decide +kernel
theorem dL_ask_5 : decode cL_ask 5 = .ok (.invokevirtual 34, 3) := by decide +kernel
theorem dL_ask_8 : decode cL_ask 8 = .ok (.ifCond .eq 7, 3) := by decide +kernel
theorem dL_ask_11 : decode cL_ask 11 = .ok (.lconst 1, 1) := by decide +kernel
theorem dL_ask_12 : decode cL_ask 12 = .ok (.goto 4, 3) := by decide +kernel
theorem dL_ask_15 : decode cL_ask 15 = .ok (.lconst 0, 1) := by decide +kernel
theorem dL_ask_16 : decode cL_ask 16 = .ok (.lastore, 1) := by decide +kernel
theorem dL_ask_17 : decode cL_ask 17 = .ok (.goto 11, 3) := by decide +kernel
theorem dL_ask_20 : decode cL_ask 20 = .ok (.astore 4, 2) := by decide +kernel
theorem dL_ask_22 : decode cL_ask 22 = .ok (.iconst 1, 1) := by decide +kernel
theorem dL_ask_23 : decode cL_ask 23 = .ok (.ireturn, 1) := by decide +kernel
theorem dL_ask_24 : decode cL_ask 24 = .ok (.astore 4, 2) := by decide +kernel
theorem dL_ask_26 : decode cL_ask 26 = .ok (.iconst 2, 1) := by decide +kernel
theorem dL_ask_27 : decode cL_ask 27 = .ok (.ireturn, 1) := by decide +kernel
theorem dL_ask_28 : decode cL_ask 28 = .ok (.iconst 0, 1) := by decide +kernel
theorem dL_ask_29 : decode cL_ask 29 = .ok (.ireturn, 1) := by decide +kernel
theorem dL_wed_0 : decode cL_wed 0 = .ok (.aload_n 3, 1) := by decide +kernel
theorem dL_wed_1 : decode cL_wed 1 = .ok (.iconst 0, 1) := by decide +kernel
theorem dL_wed_2 : decode cL_wed 2 = .ok (.aload_n 0, 1) := by decide +kernel
theorem dL_wed_3 : decode cL_wed 3 = .ok (.iload_n 1, 1) := by decide +kernel
theorem dL_wed_4 : decode cL_wed 4 = .ok (.iload_n 2, 1) := by decide +kernel
theorem dL_wed_5 : decode cL_wed 5 = .ok (.invokevirtual 38, 3) := by decide +kernel
theorem dL_wed_8 : decode cL_wed 8 = .ok (.i2l, 1) := by decide +kernel
theorem dL_wed_9 : decode cL_wed 9 = .ok (.lastore, 1) := by decide +kernel
theorem dL_wed_10 : decode cL_wed 10 = .ok (.goto 19, 3) := by decide +kernel
theorem dL_wed_13 : decode cL_wed 13 = .ok (.astore 4, 2) := by decide +kernel
theorem dL_wed_15 : decode cL_wed 15 = .ok (.iconst 1, 1) := by decide +kernel
theorem dL_wed_16 : decode cL_wed 16 = .ok (.ireturn, 1) := by decide +kernel
theorem dL_wed_17 : decode cL_wed 17 = .ok (.astore 4, 2) := by decide +kernel
theorem dL_wed_19 : decode cL_wed 19 = .ok (.iconst 2, 1) := by decide +kernel
theorem dL_wed_20 : decode cL_wed 20 = .ok (.ireturn, 1) := by decide +kernel
theorem dL_wed_21 : decode cL_wed 21 = .ok (.astore 4, 2) := by decide +kernel
theorem dL_wed_23 : decode cL_wed 23 = .ok (.iconst 3, 1) := by decide +kernel
theorem dL_wed_24 : decode cL_wed 24 = .ok (.ireturn, 1) := by decide +kernel
theorem dL_wed_25 : decode cL_wed 25 = .ok (.astore 4, 2) := by decide +kernel
theorem dL_wed_27 : decode cL_wed 27 = .ok (.iconst 4, 1) := by decide +kernel
theorem dL_wed_28 : decode cL_wed 28 = .ok (.ireturn, 1) := by decide +kernel
theorem dL_wed_29 : decode cL_wed 29 = .ok (.iconst 0, 1) := by decide +kernel
theorem dL_wed_30 : decode cL_wed 30 = .ok (.ireturn, 1) := by decide +kernel
theorem dL_gift_0 : decode cL_gift 0 = .ok (.aload_n 3, 1) := by decide +kernel
theorem dL_gift_1 : decode cL_gift 1 = .ok (.iconst 0, 1) := by decide +kernel
theorem dL_gift_2 : decode cL_gift 2 = .ok (.aload_n 0, 1) := by decide +kernel
theorem dL_gift_3 : decode cL_gift 3 = .ok (.iload_n 1, 1) := by decide +kernel
theorem dL_gift_4 : decode cL_gift 4 = .ok (.iload_n 2, 1) := by decide +kernel
theorem dL_gift_5 : decode cL_gift 5 = .ok (.invokevirtual 43, 3) := by decide +kernel
theorem dL_gift_8 : decode cL_gift 8 = .ok (.i2l, 1) := by decide +kernel
theorem dL_gift_9 : decode cL_gift 9 = .ok (.lastore, 1) := by decide +kernel
theorem dL_gift_10 : decode cL_gift 10 = .ok (.goto 11, 3) := by decide +kernel
theorem dL_gift_13 : decode cL_gift 13 = .ok (.astore 4, 2) := by decide +kernel
theorem dL_gift_15 : decode cL_gift 15 = .ok (.iconst 1, 1) := by decide +kernel
theorem dL_gift_16 : decode cL_gift 16 = .ok (.ireturn, 1) := by decide +kernel
theorem dL_gift_17 : decode cL_gift 17 = .ok (.astore 4, 2) := by decide +kernel
theorem dL_gift_19 : decode cL_gift 19 = .ok (.iconst 2, 1) := by decide +kernel
theorem dL_gift_20 : decode cL_gift 20 = .ok (.ireturn, 1) := by decide +kernel
theorem dL_gift_21 : decode cL_gift 21 = .ok (.iconst 0, 1) := by decide +kernel
theorem dL_gift_22 : decode cL_gift 22 = .ok (.ireturn, 1) := by decide +kernel
theorem dL_meddle_0 : decode cL_meddle 0 = .ok (.aload_n 3, 1) := by decide +kernel
theorem dL_meddle_1 : decode cL_meddle 1 = .ok (.iconst 0, 1) := by decide +kernel
theorem dL_meddle_2 : decode cL_meddle 2 = .ok (.aload_n 0, 1) := by decide +kernel
theorem dL_meddle_3 : decode cL_meddle 3 = .ok (.iload_n 1, 1) := by decide +kernel
theorem dL_meddle_4 : decode cL_meddle 4 = .ok (.iload_n 2, 1) := by decide +kernel
theorem dL_meddle_5 : decode cL_meddle 5 = .ok (.invokevirtual 46, 3) := by decide +kernel
theorem dL_meddle_8 : decode cL_meddle 8 = .ok (.i2l, 1) := by decide +kernel
theorem dL_meddle_9 : decode cL_meddle 9 = .ok (.lastore, 1) := by decide +kernel
theorem dL_meddle_10 : decode cL_meddle 10 = .ok (.goto 11, 3) := by decide +kernel
theorem dL_meddle_13 : decode cL_meddle 13 = .ok (.astore 4, 2) := by decide +kernel
theorem dL_meddle_15 : decode cL_meddle 15 = .ok (.iconst 1, 1) := by decide +kernel
theorem dL_meddle_16 : decode cL_meddle 16 = .ok (.ireturn, 1) := by decide +kernel
theorem dL_meddle_17 : decode cL_meddle 17 = .ok (.astore 4, 2) := by decide +kernel
theorem dL_meddle_19 : decode cL_meddle 19 = .ok (.iconst 2, 1) := by decide +kernel
theorem dL_meddle_20 : decode cL_meddle 20 = .ok (.ireturn, 1) := by decide +kernel
theorem dL_meddle_21 : decode cL_meddle 21 = .ok (.iconst 0, 1) := by decide +kernel
theorem dL_meddle_22 : decode cL_meddle 22 = .ok (.ireturn, 1) := by decide +kernel
theorem dL_reinsure_0 : decode cL_reinsure 0 = .ok (.aload_n 3, 1) := by decide +kernel
theorem dL_reinsure_1 : decode cL_reinsure 1 = .ok (.iconst 0, 1) := by decide +kernel
theorem dL_reinsure_2 : decode cL_reinsure 2 = .ok (.aload_n 0, 1) := by decide +kernel
theorem dL_reinsure_3 : decode cL_reinsure 3 = .ok (.iload_n 1, 1) := by decide +kernel
theorem dL_reinsure_4 : decode cL_reinsure 4 = .ok (.iload_n 2, 1) := by decide +kernel
theorem dL_reinsure_5 : decode cL_reinsure 5 = .ok (.invokevirtual 49, 3) := by decide +kernel
theorem dL_reinsure_8 : decode cL_reinsure 8 = .ok (.i2l, 1) := by decide +kernel
theorem dL_reinsure_9 : decode cL_reinsure 9 = .ok (.lastore, 1) := by decide +kernel
theorem dL_reinsure_10 : decode cL_reinsure 10 = .ok (.goto 11, 3) := by decide +kernel
theorem dL_reinsure_13 : decode cL_reinsure 13 = .ok (.astore 4, 2) := by decide +kernel
theorem dL_reinsure_15 : decode cL_reinsure 15 = .ok (.iconst 1, 1) := by decide +kernel
theorem dL_reinsure_16 : decode cL_reinsure 16 = .ok (.ireturn, 1) := by decide +kernel
theorem dL_reinsure_17 : decode cL_reinsure 17 = .ok (.astore 4, 2) := by decide +kernel
theorem dL_reinsure_19 : decode cL_reinsure 19 = .ok (.iconst 2, 1) := by decide +kernel
theorem dL_reinsure_20 : decode cL_reinsure 20 = .ok (.ireturn, 1) := by decide +kernel
theorem dL_reinsure_21 : decode cL_reinsure 21 = .ok (.iconst 0, 1) := by decide +kernel
theorem dL_reinsure_22 : decode cL_reinsure 22 = .ok (.ireturn, 1) := by decide +kernel
theorem dL_part_0 : decode cL_part 0 = .ok (.aload_n 2, 1) := by decide +kernel
theorem dL_part_1 : decode cL_part 1 = .ok (.iconst 0, 1) := by decide +kernel
theorem dL_part_2 : decode cL_part 2 = .ok (.aload_n 0, 1) := by decide +kernel
theorem dL_part_3 : decode cL_part 3 = .ok (.iload_n 1, 1) := by decide +kernel
theorem dL_part_4 : decode cL_part 4 = .ok (.invokevirtual 52, 3) := by decide +kernel
theorem dL_part_7 : decode cL_part 7 = .ok (.i2l, 1) := by decide +kernel
theorem dL_part_8 : decode cL_part 8 = .ok (.lastore, 1) := by decide +kernel
theorem dL_part_9 : decode cL_part 9 = .ok (.goto 9, 3) := by decide +kernel
theorem dL_part_12 : decode cL_part 12 = .ok (.astore_n 3, 1) := by decide +kernel
theorem dL_part_13 : decode cL_part 13 = .ok (.iconst 1, 1) := by decide +kernel
theorem dL_part_14 : decode cL_part 14 = .ok (.ireturn, 1) := by decide +kernel
theorem dL_part_15 : decode cL_part 15 = .ok (.astore_n 3, 1) := by decide +kernel
theorem dL_part_16 : decode cL_part 16 = .ok (.iconst 2, 1) := by decide +kernel
theorem dL_part_17 : decode cL_part 17 = .ok (.ireturn, 1) := by decide +kernel
theorem dL_part_18 : decode cL_part 18 = .ok (.iconst 0, 1) := by decide +kernel
theorem dL_part_19 : decode cL_part 19 = .ok (.ireturn, 1) := by decide +kernel
theorem dL_months_0 : decode cL_months 0 = .ok (.aload_n 2, 1) := by decide +kernel
theorem dL_months_1 : decode cL_months 1 = .ok (.iconst 0, 1) := by decide +kernel
theorem dL_months_2 : decode cL_months 2 = .ok (.aload_n 0, 1) := by decide +kernel
theorem dL_months_3 : decode cL_months 3 = .ok (.iload_n 1, 1) := by decide +kernel
theorem dL_months_4 : decode cL_months 4 = .ok (.invokevirtual 56, 3) := by decide +kernel
theorem dL_months_7 : decode cL_months 7 = .ok (.i2l, 1) := by decide +kernel
theorem dL_months_8 : decode cL_months 8 = .ok (.lastore, 1) := by decide +kernel
theorem dL_months_9 : decode cL_months 9 = .ok (.goto 6, 3) := by decide +kernel
theorem dL_months_12 : decode cL_months 12 = .ok (.astore_n 3, 1) := by decide +kernel
theorem dL_months_13 : decode cL_months 13 = .ok (.iconst 1, 1) := by decide +kernel
theorem dL_months_14 : decode cL_months 14 = .ok (.ireturn, 1) := by decide +kernel
theorem dL_months_15 : decode cL_months 15 = .ok (.iconst 0, 1) := by decide +kernel
theorem dL_months_16 : decode cL_months 16 = .ok (.ireturn, 1) := by decide +kernel
theorem dL_would_0 : decode cL_would 0 = .ok (.aload_n 3, 1) := by decide +kernel
theorem dL_would_1 : decode cL_would 1 = .ok (.iconst 0, 1) := by decide +kernel
theorem dL_would_2 : decode cL_would 2 = .ok (.aload_n 0, 1) := by decide +kernel
theorem dL_would_3 : decode cL_would 3 = .ok (.iload_n 1, 1) := by decide +kernel
theorem dL_would_4 : decode cL_would 4 = .ok (.iload_n 2, 1) := by decide +kernel
theorem dL_would_5 : decode cL_would 5 = .ok (.invokevirtual 59, 3) := by decide +kernel
theorem dL_would_8 : decode cL_would 8 = .ok (.i2l, 1) := by decide +kernel
theorem dL_would_9 : decode cL_would 9 = .ok (.lastore, 1) := by decide +kernel
theorem dL_would_10 : decode cL_would 10 = .ok (.goto 11, 3) := by decide +kernel
theorem dL_would_13 : decode cL_would 13 = .ok (.astore 4, 2) := by decide +kernel
theorem dL_would_15 : decode cL_would 15 = .ok (.iconst 1, 1) := by decide +kernel
theorem dL_would_16 : decode cL_would 16 = .ok (.ireturn, 1) := by decide +kernel
theorem dL_would_17 : decode cL_would 17 = .ok (.astore 4, 2) := by decide +kernel
theorem dL_would_19 : decode cL_would 19 = .ok (.iconst 2, 1) := by decide +kernel
theorem dL_would_20 : decode cL_would 20 = .ok (.ireturn, 1) := by decide +kernel
theorem dL_would_21 : decode cL_would 21 = .ok (.iconst 0, 1) := by decide +kernel
theorem dL_would_22 : decode cL_would 22 = .ok (.ireturn, 1) := by decide +kernel
theorem dL_best_0 : decode cL_best 0 = .ok (.aload_n 2, 1) := by decide +kernel
theorem dL_best_1 : decode cL_best 1 = .ok (.iconst 0, 1) := by decide +kernel
theorem dL_best_2 : decode cL_best 2 = .ok (.aload_n 0, 1) := by decide +kernel
theorem dL_best_3 : decode cL_best 3 = .ok (.iload_n 1, 1) := by decide +kernel
theorem dL_best_4 : decode cL_best 4 = .ok (.invokevirtual 62, 3) := by decide +kernel
theorem dL_best_7 : decode cL_best 7 = .ok (.i2l, 1) := by decide +kernel
theorem dL_best_8 : decode cL_best 8 = .ok (.lastore, 1) := by decide +kernel
theorem dL_best_9 : decode cL_best 9 = .ok (.goto 6, 3) := by decide +kernel
theorem dL_best_12 : decode cL_best 12 = .ok (.astore_n 3, 1) := by decide +kernel
theorem dL_best_13 : decode cL_best 13 = .ok (.iconst 1, 1) := by decide +kernel
theorem dL_best_14 : decode cL_best 14 = .ok (.ireturn, 1) := by decide +kernel
theorem dL_best_15 : decode cL_best 15 = .ok (.iconst 0, 1) := by decide +kernel
theorem dL_best_16 : decode cL_best 16 = .ok (.ireturn, 1) := by decide +kernel
theorem dL_next_0 : decode cL_next 0 = .ok (.aload_n 3, 1) := by decide +kernel
theorem dL_next_1 : decode cL_next 1 = .ok (.iconst 0, 1) := by decide +kernel
theorem dL_next_2 : decode cL_next 2 = .ok (.aload_n 0, 1) := by decide +kernel
theorem dL_next_3 : decode cL_next 3 = .ok (.iload_n 1, 1) := by decide +kernel
theorem dL_next_4 : decode cL_next 4 = .ok (.iload_n 2, 1) := by decide +kernel
theorem dL_next_5 : decode cL_next 5 = .ok (.invokevirtual 65, 3) := by decide +kernel
theorem dL_next_8 : decode cL_next 8 = .ok (.i2l, 1) := by decide +kernel
theorem dL_next_9 : decode cL_next 9 = .ok (.lastore, 1) := by decide +kernel
theorem dL_next_10 : decode cL_next 10 = .ok (.goto 11, 3) := by decide +kernel
theorem dL_next_13 : decode cL_next 13 = .ok (.astore 4, 2) := by decide +kernel
theorem dL_next_15 : decode cL_next 15 = .ok (.iconst 1, 1) := by decide +kernel
theorem dL_next_16 : decode cL_next 16 = .ok (.ireturn, 1) := by decide +kernel
theorem dL_next_17 : decode cL_next 17 = .ok (.astore 4, 2) := by decide +kernel
theorem dL_next_19 : decode cL_next 19 = .ok (.iconst 2, 1) := by decide +kernel
theorem dL_next_20 : decode cL_next 20 = .ok (.ireturn, 1) := by decide +kernel
theorem dL_next_21 : decode cL_next 21 = .ok (.iconst 0, 1) := by decide +kernel
theorem dL_next_22 : decode cL_next 22 = .ok (.ireturn, 1) := by decide +kernel
theorem dL_ahead_0 : decode cL_ahead 0 = .ok (.aload 4, 2) := by decide +kernel
theorem dL_ahead_2 : decode cL_ahead 2 = .ok (.iconst 0, 1) := by decide +kernel
theorem dL_ahead_3 : decode cL_ahead 3 = .ok (.aload_n 0, 1) := by decide +kernel
theorem dL_ahead_4 : decode cL_ahead 4 = .ok (.iload_n 1, 1) := by decide +kernel
theorem dL_ahead_5 : decode cL_ahead 5 = .ok (.iload_n 2, 1) := by decide +kernel
theorem dL_ahead_6 : decode cL_ahead 6 = .ok (.iload_n 3, 1) := by decide +kernel
theorem dL_ahead_7 : decode cL_ahead 7 = .ok (.invokevirtual 68, 3) := by decide +kernel
theorem dL_ahead_10 : decode cL_ahead 10 = .ok (.i2l, 1) := by decide +kernel
theorem dL_ahead_11 : decode cL_ahead 11 = .ok (.lastore, 1) := by decide +kernel
theorem dL_ahead_12 : decode cL_ahead 12 = .ok (.goto 11, 3) := by decide +kernel
theorem dL_ahead_15 : decode cL_ahead 15 = .ok (.astore 5, 2) := by decide +kernel
theorem dL_ahead_17 : decode cL_ahead 17 = .ok (.iconst 1, 1) := by decide +kernel
theorem dL_ahead_18 : decode cL_ahead 18 = .ok (.ireturn, 1) := by decide +kernel
theorem dL_ahead_19 : decode cL_ahead 19 = .ok (.astore 5, 2) := by decide +kernel
theorem dL_ahead_21 : decode cL_ahead 21 = .ok (.iconst 2, 1) := by decide +kernel
theorem dL_ahead_22 : decode cL_ahead 22 = .ok (.ireturn, 1) := by decide +kernel
theorem dL_ahead_23 : decode cL_ahead 23 = .ok (.iconst 0, 1) := by decide +kernel
theorem dL_ahead_24 : decode cL_ahead 24 = .ok (.ireturn, 1) := by decide +kernel
theorem dL_first_0 : decode cL_first 0 = .ok (.aload_n 3, 1) := by decide +kernel
theorem dL_first_1 : decode cL_first 1 = .ok (.iconst 0, 1) := by decide +kernel
theorem dL_first_2 : decode cL_first 2 = .ok (.aload_n 0, 1) := by decide +kernel
theorem dL_first_3 : decode cL_first 3 = .ok (.iload_n 1, 1) := by decide +kernel
theorem dL_first_4 : decode cL_first 4 = .ok (.iload_n 2, 1) := by decide +kernel
theorem dL_first_5 : decode cL_first 5 = .ok (.invokevirtual 72, 3) := by decide +kernel
theorem dL_first_8 : decode cL_first 8 = .ok (.i2l, 1) := by decide +kernel
theorem dL_first_9 : decode cL_first 9 = .ok (.lastore, 1) := by decide +kernel
theorem dL_first_10 : decode cL_first 10 = .ok (.goto 11, 3) := by decide +kernel
theorem dL_first_13 : decode cL_first 13 = .ok (.astore 4, 2) := by decide +kernel
theorem dL_first_15 : decode cL_first 15 = .ok (.iconst 1, 1) := by decide +kernel
theorem dL_first_16 : decode cL_first 16 = .ok (.ireturn, 1) := by decide +kernel
theorem dL_first_17 : decode cL_first 17 = .ok (.astore 4, 2) := by decide +kernel
theorem dL_first_19 : decode cL_first 19 = .ok (.iconst 2, 1) := by decide +kernel
theorem dL_first_20 : decode cL_first 20 = .ok (.ireturn, 1) := by decide +kernel
theorem dL_first_21 : decode cL_first 21 = .ok (.iconst 0, 1) := by decide +kernel
theorem dL_first_22 : decode cL_first 22 = .ok (.ireturn, 1) := by decide +kernel
theorem dL_odds_0 : decode cL_odds 0 = .ok (.aload_n 2, 1) := by decide +kernel
theorem dL_odds_1 : decode cL_odds 1 = .ok (.iconst 0, 1) := by decide +kernel
theorem dL_odds_2 : decode cL_odds 2 = .ok (.aload_n 0, 1) := by decide +kernel
theorem dL_odds_3 : decode cL_odds 3 = .ok (.iload_n 1, 1) := by decide +kernel
theorem dL_odds_4 : decode cL_odds 4 = .ok (.invokevirtual 75, 3) := by decide +kernel
theorem dL_odds_7 : decode cL_odds 7 = .ok (.i2l, 1) := by decide +kernel
theorem dL_odds_8 : decode cL_odds 8 = .ok (.lastore, 1) := by decide +kernel
theorem dL_odds_9 : decode cL_odds 9 = .ok (.goto 6, 3) := by decide +kernel
theorem dL_odds_12 : decode cL_odds 12 = .ok (.astore_n 3, 1) := by decide +kernel
theorem dL_odds_13 : decode cL_odds 13 = .ok (.iconst 1, 1) := by decide +kernel
theorem dL_odds_14 : decode cL_odds 14 = .ok (.ireturn, 1) := by decide +kernel
theorem dL_odds_15 : decode cL_odds 15 = .ok (.iconst 0, 1) := by decide +kernel
theorem dL_odds_16 : decode cL_odds 16 = .ok (.ireturn, 1) := by decide +kernel
theorem dL_loses_0 : decode cL_loses 0 = .ok (.aload_n 2, 1) := by decide +kernel
theorem dL_loses_1 : decode cL_loses 1 = .ok (.iconst 0, 1) := by decide +kernel
theorem dL_loses_2 : decode cL_loses 2 = .ok (.aload_n 0, 1) := by decide +kernel
theorem dL_loses_3 : decode cL_loses 3 = .ok (.iload_n 1, 1) := by decide +kernel
theorem dL_loses_4 : decode cL_loses 4 = .ok (.invokevirtual 78, 3) := by decide +kernel
theorem dL_loses_7 : decode cL_loses 7 = .ok (.i2l, 1) := by decide +kernel
theorem dL_loses_8 : decode cL_loses 8 = .ok (.lastore, 1) := by decide +kernel
theorem dL_loses_9 : decode cL_loses 9 = .ok (.goto 6, 3) := by decide +kernel
theorem dL_loses_12 : decode cL_loses 12 = .ok (.astore_n 3, 1) := by decide +kernel
theorem dL_loses_13 : decode cL_loses 13 = .ok (.iconst 1, 1) := by decide +kernel
theorem dL_loses_14 : decode cL_loses 14 = .ok (.ireturn, 1) := by decide +kernel
theorem dL_loses_15 : decode cL_loses 15 = .ok (.iconst 0, 1) := by decide +kernel
theorem dL_loses_16 : decode cL_loses 16 = .ok (.ireturn, 1) := by decide +kernel
theorem dL_holds_0 : decode cL_holds 0 = .ok (.aload_n 2, 1) := by decide +kernel
theorem dL_holds_1 : decode cL_holds 1 = .ok (.iconst 0, 1) := by decide +kernel
theorem dL_holds_2 : decode cL_holds 2 = .ok (.aload_n 0, 1) := by decide +kernel
theorem dL_holds_3 : decode cL_holds 3 = .ok (.iload_n 1, 1) := by decide +kernel
theorem dL_holds_4 : decode cL_holds 4 = .ok (.invokevirtual 81, 3) := by decide +kernel
theorem dL_holds_7 : decode cL_holds 7 = .ok (.i2l, 1) := by decide +kernel
theorem dL_holds_8 : decode cL_holds 8 = .ok (.lastore, 1) := by decide +kernel
theorem dL_holds_9 : decode cL_holds 9 = .ok (.goto 6, 3) := by decide +kernel
theorem dL_holds_12 : decode cL_holds 12 = .ok (.astore_n 3, 1) := by decide +kernel
theorem dL_holds_13 : decode cL_holds 13 = .ok (.iconst 1, 1) := by decide +kernel
theorem dL_holds_14 : decode cL_holds 14 = .ok (.ireturn, 1) := by decide +kernel
theorem dL_holds_15 : decode cL_holds 15 = .ok (.iconst 0, 1) := by decide +kernel
theorem dL_holds_16 : decode cL_holds 16 = .ok (.ireturn, 1) := by decide +kernel
theorem dL_ring_0 : decode cL_ring 0 = .ok (.aload_n 2, 1) := by decide +kernel
theorem dL_ring_1 : decode cL_ring 1 = .ok (.iconst 0, 1) := by decide +kernel
theorem dL_ring_2 : decode cL_ring 2 = .ok (.aload_n 0, 1) := by decide +kernel
theorem dL_ring_3 : decode cL_ring 3 = .ok (.iload_n 1, 1) := by decide +kernel
theorem dL_ring_4 : decode cL_ring 4 = .ok (.invokevirtual 84, 3) := by decide +kernel
theorem dL_ring_7 : decode cL_ring 7 = .ok (.i2l, 1) := by decide +kernel
theorem dL_ring_8 : decode cL_ring 8 = .ok (.lastore, 1) := by decide +kernel
theorem dL_ring_9 : decode cL_ring 9 = .ok (.goto 6, 3) := by decide +kernel
theorem dL_ring_12 : decode cL_ring 12 = .ok (.astore_n 3, 1) := by decide +kernel
theorem dL_ring_13 : decode cL_ring 13 = .ok (.iconst 1, 1) := by decide +kernel
theorem dL_ring_14 : decode cL_ring 14 = .ok (.ireturn, 1) := by decide +kernel
theorem dL_ring_15 : decode cL_ring 15 = .ok (.iconst 0, 1) := by decide +kernel
theorem dL_ring_16 : decode cL_ring 16 = .ok (.ireturn, 1) := by decide +kernel
theorem dL_leans_0 : decode cL_leans 0 = .ok (.aload_n 2, 1) := by decide +kernel
theorem dL_leans_1 : decode cL_leans 1 = .ok (.iconst 0, 1) := by decide +kernel
theorem dL_leans_2 : decode cL_leans 2 = .ok (.aload_n 0, 1) := by decide +kernel
theorem dL_leans_3 : decode cL_leans 3 = .ok (.iload_n 1, 1) := by decide +kernel
theorem dL_leans_4 : decode cL_leans 4 = .ok (.invokevirtual 87, 3) := by decide +kernel
theorem dL_leans_7 : decode cL_leans 7 = .ok (.i2l, 1) := by decide +kernel
theorem dL_leans_8 : decode cL_leans 8 = .ok (.lastore, 1) := by decide +kernel
theorem dL_leans_9 : decode cL_leans 9 = .ok (.goto 6, 3) := by decide +kernel
theorem dL_leans_12 : decode cL_leans 12 = .ok (.astore_n 3, 1) := by decide +kernel
theorem dL_leans_13 : decode cL_leans 13 = .ok (.iconst 1, 1) := by decide +kernel
theorem dL_leans_14 : decode cL_leans 14 = .ok (.ireturn, 1) := by decide +kernel
theorem dL_leans_15 : decode cL_leans 15 = .ok (.iconst 0, 1) := by decide +kernel
theorem dL_leans_16 : decode cL_leans 16 = .ok (.ireturn, 1) := by decide +kernel
theorem dL_gifts_0 : decode cL_gifts 0 = .ok (.aload 4, 2) := by decide +kernel
theorem dL_gifts_2 : decode cL_gifts 2 = .ok (.iconst 0, 1) := by decide +kernel
theorem dL_gifts_3 : decode cL_gifts 3 = .ok (.aload_n 0, 1) := by decide +kernel
theorem dL_gifts_4 : decode cL_gifts 4 = .ok (.iload_n 1, 1) := by decide +kernel
theorem dL_gifts_5 : decode cL_gifts 5 = .ok (.iload_n 2, 1) := by decide +kernel
theorem dL_gifts_6 : decode cL_gifts 6 = .ok (.iload_n 3, 1) := by decide +kernel
theorem dL_gifts_7 : decode cL_gifts 7 = .ok (.invokevirtual 90, 3) := by decide +kernel
theorem dL_gifts_10 : decode cL_gifts 10 = .ok (.i2l, 1) := by decide +kernel
theorem dL_gifts_11 : decode cL_gifts 11 = .ok (.lastore, 1) := by decide +kernel
theorem dL_gifts_12 : decode cL_gifts 12 = .ok (.goto 11, 3) := by decide +kernel
theorem dL_gifts_15 : decode cL_gifts 15 = .ok (.astore 5, 2) := by decide +kernel
theorem dL_gifts_17 : decode cL_gifts 17 = .ok (.iconst 1, 1) := by decide +kernel
theorem dL_gifts_18 : decode cL_gifts 18 = .ok (.ireturn, 1) := by decide +kernel
theorem dL_gifts_19 : decode cL_gifts 19 = .ok (.astore 5, 2) := by decide +kernel
theorem dL_gifts_21 : decode cL_gifts 21 = .ok (.iconst 2, 1) := by decide +kernel
theorem dL_gifts_22 : decode cL_gifts 22 = .ok (.ireturn, 1) := by decide +kernel
theorem dL_gifts_23 : decode cL_gifts 23 = .ok (.iconst 0, 1) := by decide +kernel
theorem dL_gifts_24 : decode cL_gifts 24 = .ok (.ireturn, 1) := by decide +kernel
theorem dL_rather_0 : decode cL_rather 0 = .ok (.aload_n 2, 1) := by decide +kernel
theorem dL_rather_1 : decode cL_rather 1 = .ok (.iconst 0, 1) := by decide +kernel
theorem dL_rather_2 : decode cL_rather 2 = .ok (.aload_n 0, 1) := by decide +kernel
theorem dL_rather_3 : decode cL_rather 3 = .ok (.iload_n 1, 1) := by decide +kernel
theorem dL_rather_4 : decode cL_rather 4 = .ok (.invokevirtual 93, 3) := by decide +kernel
theorem dL_rather_7 : decode cL_rather 7 = .ok (.i2l, 1) := by decide +kernel
theorem dL_rather_8 : decode cL_rather 8 = .ok (.lastore, 1) := by decide +kernel
theorem dL_rather_9 : decode cL_rather 9 = .ok (.goto 6, 3) := by decide +kernel
theorem dL_rather_12 : decode cL_rather 12 = .ok (.astore_n 3, 1) := by decide +kernel
theorem dL_rather_13 : decode cL_rather 13 = .ok (.iconst 1, 1) := by decide +kernel
theorem dL_rather_14 : decode cL_rather 14 = .ok (.ireturn, 1) := by decide +kernel
theorem dL_rather_15 : decode cL_rather 15 = .ok (.iconst 0, 1) := by decide +kernel
theorem dL_rather_16 : decode cL_rather 16 = .ok (.ireturn, 1) := by decide +kernel
theorem dL_steady_0 : decode cL_steady 0 = .ok (.aload_n 2, 1) := by decide +kernel
theorem dL_steady_1 : decode cL_steady 1 = .ok (.iconst 0, 1) := by decide +kernel
theorem dL_steady_2 : decode cL_steady 2 = .ok (.aload_n 0, 1) := by decide +kernel
theorem dL_steady_3 : decode cL_steady 3 = .ok (.iload_n 1, 1) := by decide +kernel
theorem dL_steady_4 : decode cL_steady 4 = .ok (.invokevirtual 96, 3) := by decide +kernel
theorem dL_steady_7 : decode cL_steady 7 = .ok (.i2l, 1) := by decide +kernel
theorem dL_steady_8 : decode cL_steady 8 = .ok (.lastore, 1) := by decide +kernel
theorem dL_steady_9 : decode cL_steady 9 = .ok (.goto 6, 3) := by decide +kernel
theorem dL_steady_12 : decode cL_steady 12 = .ok (.astore_n 3, 1) := by decide +kernel
theorem dL_steady_13 : decode cL_steady 13 = .ok (.iconst 1, 1) := by decide +kernel
theorem dL_steady_14 : decode cL_steady 14 = .ok (.ireturn, 1) := by decide +kernel
theorem dL_steady_15 : decode cL_steady 15 = .ok (.iconst 0, 1) := by decide +kernel
theorem dL_steady_16 : decode cL_steady 16 = .ok (.ireturn, 1) := by decide +kernel
theorem dL_anniversary_0 : decode cL_anniversary 0 = .ok (.aload_n 2, 1) := by decide +kernel
theorem dL_anniversary_1 : decode cL_anniversary 1 = .ok (.iconst 0, 1) := by decide +kernel
theorem dL_anniversary_2 : decode cL_anniversary 2 = .ok (.aload_n 0, 1) := by decide +kernel
theorem dL_anniversary_3 : decode cL_anniversary 3 = .ok (.iload_n 1, 1) := by decide +kernel
theorem dL_anniversary_4 : decode cL_anniversary 4 = .ok (.invokevirtual 99, 3) := by decide +kernel
theorem dL_anniversary_7 : decode cL_anniversary 7 = .ok (.i2l, 1) := by decide +kernel
theorem dL_anniversary_8 : decode cL_anniversary 8 = .ok (.lastore, 1) := by decide +kernel
theorem dL_anniversary_9 : decode cL_anniversary 9 = .ok (.goto 6, 3) := by decide +kernel
theorem dL_anniversary_12 : decode cL_anniversary 12 = .ok (.astore_n 3, 1) := by decide +kernel
theorem dL_anniversary_13 : decode cL_anniversary 13 = .ok (.iconst 1, 1) := by decide +kernel
theorem dL_anniversary_14 : decode cL_anniversary 14 = .ok (.ireturn, 1) := by decide +kernel
theorem dL_anniversary_15 : decode cL_anniversary 15 = .ok (.iconst 0, 1) := by decide +kernel
theorem dL_anniversary_16 : decode cL_anniversary 16 = .ok (.ireturn, 1) := by decide +kernel
theorem dL_dance_0 : decode cL_dance 0 = .ok (.aload_n 1, 1) := by decide +kernel
theorem dL_dance_1 : decode cL_dance 1 = .ok (.iconst 0, 1) := by decide +kernel
theorem dL_dance_2 : decode cL_dance 2 = .ok (.aload_n 0, 1) := by decide +kernel
theorem dL_dance_3 : decode cL_dance 3 = .ok (.invokevirtual 103, 3) := by decide +kernel
theorem dL_dance_6 : decode cL_dance 6 = .ok (.i2l, 1) := by decide +kernel
theorem dL_dance_7 : decode cL_dance 7 = .ok (.lastore, 1) := by decide +kernel
theorem dL_dance_8 : decode cL_dance 8 = .ok (.goto 6, 3) := by decide +kernel
theorem dL_dance_11 : decode cL_dance 11 = .ok (.astore_n 2, 1) := by decide +kernel
theorem dL_dance_12 : decode cL_dance 12 = .ok (.iconst 1, 1) := by decide +kernel
theorem dL_dance_13 : decode cL_dance 13 = .ok (.ireturn, 1) := by decide +kernel
theorem dL_dance_14 : decode cL_dance 14 = .ok (.iconst 0, 1) := by decide +kernel
theorem dL_dance_15 : decode cL_dance 15 = .ok (.ireturn, 1) := by decide +kernel
theorem dL_trial_0 : decode cL_trial 0 = .ok (.aload_n 3, 1) := by decide +kernel
theorem dL_trial_1 : decode cL_trial 1 = .ok (.iconst 0, 1) := by decide +kernel
theorem dL_trial_2 : decode cL_trial 2 = .ok (.aload_n 0, 1) := by decide +kernel
theorem dL_trial_3 : decode cL_trial 3 = .ok (.iload_n 1, 1) := by decide +kernel
theorem dL_trial_4 : decode cL_trial 4 = .ok (.iload_n 2, 1) := by decide +kernel
theorem dL_trial_5 : decode cL_trial 5 = .ok (.invokevirtual 106, 3) := by decide +kernel
theorem dL_trial_8 : decode cL_trial 8 = .ok (.i2l, 1) := by decide +kernel
theorem dL_trial_9 : decode cL_trial 9 = .ok (.lastore, 1) := by decide +kernel
theorem dL_trial_10 : decode cL_trial 10 = .ok (.goto 7, 3) := by decide +kernel
theorem dL_trial_13 : decode cL_trial 13 = .ok (.astore 4, 2) := by decide +kernel
theorem dL_trial_15 : decode cL_trial 15 = .ok (.iconst 1, 1) := by decide +kernel
theorem dL_trial_16 : decode cL_trial 16 = .ok (.ireturn, 1) := by decide +kernel
theorem dL_trial_17 : decode cL_trial 17 = .ok (.iconst 0, 1) := by decide +kernel
theorem dL_trial_18 : decode cL_trial 18 = .ok (.ireturn, 1) := by decide +kernel
theorem dL_span_0 : decode cL_span 0 = .ok (.aload_n 3, 1) := by decide +kernel
theorem dL_span_1 : decode cL_span 1 = .ok (.iconst 0, 1) := by decide +kernel
theorem dL_span_2 : decode cL_span 2 = .ok (.aload_n 0, 1) := by decide +kernel
theorem dL_span_3 : decode cL_span 3 = .ok (.iload_n 1, 1) := by decide +kernel
theorem dL_span_4 : decode cL_span 4 = .ok (.iload_n 2, 1) := by decide +kernel
theorem dL_span_5 : decode cL_span 5 = .ok (.invokevirtual 110, 3) := by decide +kernel
theorem dL_span_8 : decode cL_span 8 = .ok (.i2l, 1) := by decide +kernel
theorem dL_span_9 : decode cL_span 9 = .ok (.lastore, 1) := by decide +kernel
theorem dL_span_10 : decode cL_span 10 = .ok (.goto 7, 3) := by decide +kernel
theorem dL_span_13 : decode cL_span 13 = .ok (.astore 4, 2) := by decide +kernel
theorem dL_span_15 : decode cL_span 15 = .ok (.iconst 1, 1) := by decide +kernel
theorem dL_span_16 : decode cL_span 16 = .ok (.ireturn, 1) := by decide +kernel
theorem dL_span_17 : decode cL_span 17 = .ok (.iconst 0, 1) := by decide +kernel
theorem dL_span_18 : decode cL_span 18 = .ok (.ireturn, 1) := by decide +kernel
theorem dL_led_0 : decode cL_led 0 = .ok (.aload_n 3, 1) := by decide +kernel
theorem dL_led_1 : decode cL_led 1 = .ok (.iconst 0, 1) := by decide +kernel
theorem dL_led_2 : decode cL_led 2 = .ok (.aload_n 0, 1) := by decide +kernel
theorem dL_led_3 : decode cL_led 3 = .ok (.iload_n 1, 1) := by decide +kernel
theorem dL_led_4 : decode cL_led 4 = .ok (.iload_n 2, 1) := by decide +kernel
theorem dL_led_5 : decode cL_led 5 = .ok (.invokevirtual 113, 3) := by decide +kernel
theorem dL_led_8 : decode cL_led 8 = .ok (.i2l, 1) := by decide +kernel
theorem dL_led_9 : decode cL_led 9 = .ok (.lastore, 1) := by decide +kernel
theorem dL_led_10 : decode cL_led 10 = .ok (.goto 7, 3) := by decide +kernel
theorem dL_led_13 : decode cL_led 13 = .ok (.astore 4, 2) := by decide +kernel
theorem dL_led_15 : decode cL_led 15 = .ok (.iconst 1, 1) := by decide +kernel
theorem dL_led_16 : decode cL_led 16 = .ok (.ireturn, 1) := by decide +kernel
theorem dL_led_17 : decode cL_led 17 = .ok (.iconst 0, 1) := by decide +kernel
theorem dL_led_18 : decode cL_led 18 = .ok (.ireturn, 1) := by decide +kernel
theorem dL_log_0 : decode cL_log 0 = .ok (.aload_n 3, 1) := by decide +kernel
theorem dL_log_1 : decode cL_log 1 = .ok (.iconst 0, 1) := by decide +kernel
theorem dL_log_2 : decode cL_log 2 = .ok (.aload_n 0, 1) := by decide +kernel
theorem dL_log_3 : decode cL_log 3 = .ok (.iload_n 1, 1) := by decide +kernel
theorem dL_log_4 : decode cL_log 4 = .ok (.iload_n 2, 1) := by decide +kernel
theorem dL_log_5 : decode cL_log 5 = .ok (.invokevirtual 116, 3) := by decide +kernel
theorem dL_log_8 : decode cL_log 8 = .ok (.i2l, 1) := by decide +kernel
theorem dL_log_9 : decode cL_log 9 = .ok (.lastore, 1) := by decide +kernel
theorem dL_log_10 : decode cL_log 10 = .ok (.goto 7, 3) := by decide +kernel
theorem dL_log_13 : decode cL_log 13 = .ok (.astore 4, 2) := by decide +kernel
theorem dL_log_15 : decode cL_log 15 = .ok (.iconst 1, 1) := by decide +kernel
theorem dL_log_16 : decode cL_log 16 = .ok (.ireturn, 1) := by decide +kernel
theorem dL_log_17 : decode cL_log 17 = .ok (.iconst 0, 1) := by decide +kernel
theorem dL_log_18 : decode cL_log 18 = .ok (.ireturn, 1) := by decide +kernel
theorem dL_law__0 : decode cL_law_ 0 = .ok (.new 8, 3) := by decide +kernel
theorem dL_law__3 : decode cL_law_ 3 = .ok (.dup, 1) := by decide +kernel
theorem dL_law__4 : decode cL_law_ 4 = .ok (.invokespecial 119, 3) := by decide +kernel
theorem dL_law__7 : decode cL_law_ 7 = .ok (.astore_n 1, 1) := by decide +kernel
theorem dL_law__8 : decode cL_law_ 8 = .ok (.new 120, 3) := by decide +kernel
theorem dL_law__11 : decode cL_law_ 11 = .ok (.dup, 1) := by decide +kernel
theorem dL_law__12 : decode cL_law_ 12 = .ok (.invokespecial 122, 3) := by decide +kernel
theorem dL_law__15 : decode cL_law_ 15 = .ok (.astore_n 2, 1) := by decide +kernel
theorem dL_law__16 : decode cL_law_ 16 = .ok (.iconst 1, 1) := by decide +kernel
theorem dL_law__17 : decode cL_law_ 17 = .ok (.newarray .long, 2) := by decide +kernel
theorem dL_law__19 : decode cL_law_ 19 = .ok (.astore_n 3, 1) := by decide +kernel
theorem dL_law__20 : decode cL_law_ 20 = .ok (.iconst 0, 1) := by decide +kernel
theorem dL_law__21 : decode cL_law_ 21 = .ok (.istore 4, 2) := by decide +kernel
theorem dL_law__23 : decode cL_law_ 23 = .ok (.iload 4, 2) := by decide +kernel
theorem dL_law__25 : decode cL_law_ 25 = .ok (.aload_n 0, 1) := by decide +kernel
theorem dL_law__26 : decode cL_law_ 26 = .ok (.arraylength, 1) := by decide +kernel
theorem dL_law__27 : decode cL_law_ 27 = .ok (.bipush 6, 2) := by decide +kernel
theorem dL_law__29 : decode cL_law_ 29 = .ok (.isub, 1) := by decide +kernel
theorem dL_law__30 : decode cL_law_ 30 = .ok (.if_icmp .gt 2498, 3) := by decide +kernel
theorem dL_law__33 : decode cL_law_ 33 = .ok (.aload_n 0, 1) := by decide +kernel
theorem dL_law__34 : decode cL_law_ 34 = .ok (.iload 4, 2) := by decide +kernel
theorem dL_law__36 : decode cL_law_ 36 = .ok (.iaload, 1) := by decide +kernel
theorem dL_law__37 : decode cL_law_ 37 = .ok (.bipush 63, 2) := by decide +kernel
theorem dL_law__39 : decode cL_law_ 39 = .ok (.iand, 1) := by decide +kernel
theorem dL_law__40 : decode cL_law_ 40 = .ok (.tableswitch 2482 0 43 #[192, 265, 290, 334, 378, 391, 459, 527, 595, 670, 738, 806, 874, 942, 998, 1054, 1122, 1178, 1246, 1326, 1394, 1450, 1463, 1519, 1575, 1631, 1644, 1700, 1780, 1836, 1877, 1933, 1946, 2018, 2062, 2075, 2159, 2243, 2327, 2395, 2420, 2433, 2444, 2457], 192) := by decide +kernel
theorem dL_law__232 : decode cL_law_ 232 = .ok (.aload_n 1, 1) := by decide +kernel
theorem dL_law__233 : decode cL_law_ 233 = .ok (.aload_n 0, 1) := by decide +kernel
theorem dL_law__234 : decode cL_law_ 234 = .ok (.iload 4, 2) := by decide +kernel
theorem dL_law__236 : decode cL_law_ 236 = .ok (.iconst 1, 1) := by decide +kernel
theorem dL_law__237 : decode cL_law_ 237 = .ok (.iadd, 1) := by decide +kernel
theorem dL_law__238 : decode cL_law_ 238 = .ok (.iaload, 1) := by decide +kernel
theorem dL_law__239 : decode cL_law_ 239 = .ok (.aload_n 0, 1) := by decide +kernel
theorem dL_law__240 : decode cL_law_ 240 = .ok (.iload 4, 2) := by decide +kernel
theorem dL_law__242 : decode cL_law_ 242 = .ok (.iconst 2, 1) := by decide +kernel
theorem dL_law__243 : decode cL_law_ 243 = .ok (.iadd, 1) := by decide +kernel
theorem dL_law__244 : decode cL_law_ 244 = .ok (.iaload, 1) := by decide +kernel
theorem dL_law__245 : decode cL_law_ 245 = .ok (.aload_n 0, 1) := by decide +kernel
theorem dL_law__246 : decode cL_law_ 246 = .ok (.iload 4, 2) := by decide +kernel
theorem dL_law__248 : decode cL_law_ 248 = .ok (.iconst 3, 1) := by decide +kernel
theorem dL_law__249 : decode cL_law_ 249 = .ok (.iadd, 1) := by decide +kernel
theorem dL_law__250 : decode cL_law_ 250 = .ok (.iaload, 1) := by decide +kernel
theorem dL_law__251 : decode cL_law_ 251 = .ok (.aload_n 0, 1) := by decide +kernel
theorem dL_law__252 : decode cL_law_ 252 = .ok (.iload 4, 2) := by decide +kernel
theorem dL_law__254 : decode cL_law_ 254 = .ok (.iconst 4, 1) := by decide +kernel
theorem dL_law__255 : decode cL_law_ 255 = .ok (.iadd, 1) := by decide +kernel
theorem dL_law__256 : decode cL_law_ 256 = .ok (.iaload, 1) := by decide +kernel
theorem dL_law__257 : decode cL_law_ 257 = .ok (.aload_n 0, 1) := by decide +kernel
theorem dL_law__258 : decode cL_law_ 258 = .ok (.iload 4, 2) := by decide +kernel
theorem dL_law__260 : decode cL_law_ 260 = .ok (.iconst 5, 1) := by decide +kernel
theorem dL_law__261 : decode cL_law_ 261 = .ok (.iadd, 1) := by decide +kernel
theorem dL_law__262 : decode cL_law_ 262 = .ok (.iaload, 1) := by decide +kernel
theorem dL_law__263 : decode cL_law_ 263 = .ok (.invokevirtual 123, 3) := by decide +kernel
theorem dL_law__266 : decode cL_law_ 266 = .ok (.aload_n 2, 1) := by decide +kernel
theorem dL_law__267 : decode cL_law_ 267 = .ok (.aload_n 0, 1) := by decide +kernel
theorem dL_law__268 : decode cL_law_ 268 = .ok (.iload 4, 2) := by decide +kernel
theorem dL_law__270 : decode cL_law_ 270 = .ok (.iconst 1, 1) := by decide +kernel
theorem dL_law__271 : decode cL_law_ 271 = .ok (.iadd, 1) := by decide +kernel
theorem dL_law__272 : decode cL_law_ 272 = .ok (.iaload, 1) := by decide +kernel
theorem dL_law__273 : decode cL_law_ 273 = .ok (.aload_n 0, 1) := by decide +kernel
theorem dL_law__274 : decode cL_law_ 274 = .ok (.iload 4, 2) := by decide +kernel
theorem dL_law__276 : decode cL_law_ 276 = .ok (.iconst 2, 1) := by decide +kernel
theorem dL_law__277 : decode cL_law_ 277 = .ok (.iadd, 1) := by decide +kernel
theorem dL_law__278 : decode cL_law_ 278 = .ok (.iaload, 1) := by decide +kernel
theorem dL_law__279 : decode cL_law_ 279 = .ok (.aload_n 0, 1) := by decide +kernel
theorem dL_law__280 : decode cL_law_ 280 = .ok (.iload 4, 2) := by decide +kernel
theorem dL_law__282 : decode cL_law_ 282 = .ok (.iconst 3, 1) := by decide +kernel
theorem dL_law__283 : decode cL_law_ 283 = .ok (.iadd, 1) := by decide +kernel
theorem dL_law__284 : decode cL_law_ 284 = .ok (.iaload, 1) := by decide +kernel
theorem dL_law__285 : decode cL_law_ 285 = .ok (.aload_n 0, 1) := by decide +kernel
theorem dL_law__286 : decode cL_law_ 286 = .ok (.iload 4, 2) := by decide +kernel
theorem dL_law__288 : decode cL_law_ 288 = .ok (.iconst 4, 1) := by decide +kernel
theorem dL_law__289 : decode cL_law_ 289 = .ok (.iadd, 1) := by decide +kernel
theorem dL_law__290 : decode cL_law_ 290 = .ok (.iaload, 1) := by decide +kernel
theorem dL_law__291 : decode cL_law_ 291 = .ok (.aload_n 0, 1) := by decide +kernel
theorem dL_law__292 : decode cL_law_ 292 = .ok (.iload 4, 2) := by decide +kernel
theorem dL_law__294 : decode cL_law_ 294 = .ok (.iconst 5, 1) := by decide +kernel
theorem dL_law__295 : decode cL_law_ 295 = .ok (.iadd, 1) := by decide +kernel
theorem dL_law__296 : decode cL_law_ 296 = .ok (.iaload, 1) := by decide +kernel
theorem dL_law__297 : decode cL_law_ 297 = .ok (.invokevirtual 127, 3) := by decide +kernel
theorem dL_law__300 : decode cL_law_ 300 = .ok (.if_icmp .eq 2222, 3) := by decide +kernel
theorem dL_law__303 : decode cL_law_ 303 = .ok (.iconst 0, 1) := by decide +kernel
theorem dL_law__304 : decode cL_law_ 304 = .ok (.ireturn, 1) := by decide +kernel
theorem dL_law__305 : decode cL_law_ 305 = .ok (.aload_n 1, 1) := by decide +kernel
theorem dL_law__306 : decode cL_law_ 306 = .ok (.aload_n 0, 1) := by decide +kernel
theorem dL_law__307 : decode cL_law_ 307 = .ok (.iload 4, 2) := by decide +kernel
theorem dL_law__309 : decode cL_law_ 309 = .ok (.iconst 1, 1) := by decide +kernel
theorem dL_law__310 : decode cL_law_ 310 = .ok (.iadd, 1) := by decide +kernel
theorem dL_law__311 : decode cL_law_ 311 = .ok (.iaload, 1) := by decide +kernel
theorem dL_law__312 : decode cL_law_ 312 = .ok (.invokevirtual 128, 3) := by decide +kernel
theorem dL_law__315 : decode cL_law_ 315 = .ok (.aload_n 2, 1) := by decide +kernel
theorem dL_law__316 : decode cL_law_ 316 = .ok (.aload_n 0, 1) := by decide +kernel
theorem dL_law__317 : decode cL_law_ 317 = .ok (.iload 4, 2) := by decide +kernel
theorem dL_law__319 : decode cL_law_ 319 = .ok (.iconst 1, 1) := by decide +kernel
theorem dL_law__320 : decode cL_law_ 320 = .ok (.iadd, 1) := by decide +kernel
theorem dL_law__321 : decode cL_law_ 321 = .ok (.iaload, 1) := by decide +kernel
theorem dL_law__322 : decode cL_law_ 322 = .ok (.invokevirtual 132, 3) := by decide +kernel
theorem dL_law__325 : decode cL_law_ 325 = .ok (.if_icmp .eq 2197, 3) := by decide +kernel
theorem dL_law__328 : decode cL_law_ 328 = .ok (.iconst 0, 1) := by decide +kernel
theorem dL_law__329 : decode cL_law_ 329 = .ok (.ireturn, 1) := by decide +kernel
theorem dL_law__330 : decode cL_law_ 330 = .ok (.aload_n 1, 1) := by decide +kernel
theorem dL_law__331 : decode cL_law_ 331 = .ok (.aload_n 3, 1) := by decide +kernel
theorem dL_law__332 : decode cL_law_ 332 = .ok (.invokestatic 133, 3) := by decide +kernel
theorem dL_law__335 : decode cL_law_ 335 = .ok (.istore 5, 2) := by decide +kernel
theorem dL_law__337 : decode cL_law_ 337 = .ok (.aload_n 2, 1) := by decide +kernel
theorem dL_law__338 : decode cL_law_ 338 = .ok (.invokevirtual 138, 3) := by decide +kernel
theorem dL_law__341 : decode cL_law_ 341 = .ok (.istore 6, 2) := by decide +kernel
theorem dL_law__343 : decode cL_law_ 343 = .ok (.aload_n 2, 1) := by decide +kernel
theorem dL_law__344 : decode cL_law_ 344 = .ok (.invokevirtual 139, 3) := by decide +kernel
theorem dL_law__347 : decode cL_law_ 347 = .ok (.iload 5, 2) := by decide +kernel
theorem dL_law__349 : decode cL_law_ 349 = .ok (.if_icmp .eq 5, 3) := by decide +kernel
theorem dL_law__352 : decode cL_law_ 352 = .ok (.iconst 0, 1) := by decide +kernel
theorem dL_law__353 : decode cL_law_ 353 = .ok (.ireturn, 1) := by decide +kernel
theorem dL_law__354 : decode cL_law_ 354 = .ok (.iload 5, 2) := by decide +kernel
theorem dL_law__356 : decode cL_law_ 356 = .ok (.ifCond .ne 15, 3) := by decide +kernel
theorem dL_law__359 : decode cL_law_ 359 = .ok (.aload_n 3, 1) := by decide +kernel
theorem dL_law__360 : decode cL_law_ 360 = .ok (.iconst 0, 1) := by decide +kernel
theorem dL_law__361 : decode cL_law_ 361 = .ok (.laload, 1) := by decide +kernel
theorem dL_law__362 : decode cL_law_ 362 = .ok (.iload 6, 2) := by decide +kernel
theorem dL_law__364 : decode cL_law_ 364 = .ok (.i2l, 1) := by decide +kernel
theorem dL_law__365 : decode cL_law_ 365 = .ok (.lcmp, 1) := by decide +kernel
theorem dL_law__366 : decode cL_law_ 366 = .ok (.ifCond .eq 5, 3) := by decide +kernel
theorem dL_law__369 : decode cL_law_ 369 = .ok (.iconst 0, 1) := by decide +kernel
theorem dL_law__370 : decode cL_law_ 370 = .ok (.ireturn, 1) := by decide +kernel
theorem dL_law__371 : decode cL_law_ 371 = .ok (.goto 2151, 3) := by decide +kernel
theorem dL_law__374 : decode cL_law_ 374 = .ok (.aload_n 1, 1) := by decide +kernel
theorem dL_law__375 : decode cL_law_ 375 = .ok (.aload_n 3, 1) := by decide +kernel
theorem dL_law__376 : decode cL_law_ 376 = .ok (.invokestatic 142, 3) := by decide +kernel
theorem dL_law__379 : decode cL_law_ 379 = .ok (.istore 5, 2) := by decide +kernel
theorem dL_law__381 : decode cL_law_ 381 = .ok (.aload_n 2, 1) := by decide +kernel
theorem dL_law__382 : decode cL_law_ 382 = .ok (.invokevirtual 144, 3) := by decide +kernel
theorem dL_law__385 : decode cL_law_ 385 = .ok (.istore 6, 2) := by decide +kernel
theorem dL_law__387 : decode cL_law_ 387 = .ok (.aload_n 2, 1) := by decide +kernel
theorem dL_law__388 : decode cL_law_ 388 = .ok (.invokevirtual 139, 3) := by decide +kernel
theorem dL_law__391 : decode cL_law_ 391 = .ok (.iload 5, 2) := by decide +kernel
theorem dL_law__393 : decode cL_law_ 393 = .ok (.if_icmp .eq 5, 3) := by decide +kernel
theorem dL_law__396 : decode cL_law_ 396 = .ok (.iconst 0, 1) := by decide +kernel
theorem dL_law__397 : decode cL_law_ 397 = .ok (.ireturn, 1) := by decide +kernel
theorem dL_law__398 : decode cL_law_ 398 = .ok (.iload 5, 2) := by decide +kernel
theorem dL_law__400 : decode cL_law_ 400 = .ok (.ifCond .ne 15, 3) := by decide +kernel
theorem dL_law__403 : decode cL_law_ 403 = .ok (.aload_n 3, 1) := by decide +kernel
theorem dL_law__404 : decode cL_law_ 404 = .ok (.iconst 0, 1) := by decide +kernel
theorem dL_law__405 : decode cL_law_ 405 = .ok (.laload, 1) := by decide +kernel
theorem dL_law__406 : decode cL_law_ 406 = .ok (.iload 6, 2) := by decide +kernel
theorem dL_law__408 : decode cL_law_ 408 = .ok (.i2l, 1) := by decide +kernel
theorem dL_law__409 : decode cL_law_ 409 = .ok (.lcmp, 1) := by decide +kernel
theorem dL_law__410 : decode cL_law_ 410 = .ok (.ifCond .eq 5, 3) := by decide +kernel
theorem dL_law__413 : decode cL_law_ 413 = .ok (.iconst 0, 1) := by decide +kernel
theorem dL_law__414 : decode cL_law_ 414 = .ok (.ireturn, 1) := by decide +kernel
theorem dL_law__415 : decode cL_law_ 415 = .ok (.goto 2107, 3) := by decide +kernel
theorem dL_law__418 : decode cL_law_ 418 = .ok (.aload_n 1, 1) := by decide +kernel
theorem dL_law__419 : decode cL_law_ 419 = .ok (.invokevirtual 145, 3) := by decide +kernel
theorem dL_law__422 : decode cL_law_ 422 = .ok (.aload_n 2, 1) := by decide +kernel
theorem dL_law__423 : decode cL_law_ 423 = .ok (.invokevirtual 148, 3) := by decide +kernel
theorem dL_law__426 : decode cL_law_ 426 = .ok (.if_icmp .eq 2096, 3) := by decide +kernel
theorem dL_law__429 : decode cL_law_ 429 = .ok (.iconst 0, 1) := by decide +kernel
theorem dL_law__430 : decode cL_law_ 430 = .ok (.ireturn, 1) := by decide +kernel
theorem dL_law__431 : decode cL_law_ 431 = .ok (.aload_n 1, 1) := by decide +kernel
theorem dL_law__432 : decode cL_law_ 432 = .ok (.aload_n 0, 1) := by decide +kernel
theorem dL_law__433 : decode cL_law_ 433 = .ok (.iload 4, 2) := by decide +kernel
theorem dL_law__435 : decode cL_law_ 435 = .ok (.iconst 1, 1) := by decide +kernel
theorem dL_law__436 : decode cL_law_ 436 = .ok (.iadd, 1) := by decide +kernel
theorem dL_law__437 : decode cL_law_ 437 = .ok (.iaload, 1) := by decide +kernel
theorem dL_law__438 : decode cL_law_ 438 = .ok (.aload_n 0, 1) := by decide +kernel
theorem dL_law__439 : decode cL_law_ 439 = .ok (.iload 4, 2) := by decide +kernel
theorem dL_law__441 : decode cL_law_ 441 = .ok (.iconst 2, 1) := by decide +kernel
theorem dL_law__442 : decode cL_law_ 442 = .ok (.iadd, 1) := by decide +kernel
theorem dL_law__443 : decode cL_law_ 443 = .ok (.iaload, 1) := by decide +kernel
theorem dL_law__444 : decode cL_law_ 444 = .ok (.aload_n 3, 1) := by decide +kernel
theorem dL_law__445 : decode cL_law_ 445 = .ok (.invokestatic 149, 3) := by decide +kernel
theorem dL_law__448 : decode cL_law_ 448 = .ok (.istore 5, 2) := by decide +kernel
theorem dL_law__450 : decode cL_law_ 450 = .ok (.aload_n 2, 1) := by decide +kernel
theorem dL_law__451 : decode cL_law_ 451 = .ok (.aload_n 0, 1) := by decide +kernel
theorem dL_law__452 : decode cL_law_ 452 = .ok (.iload 4, 2) := by decide +kernel
theorem dL_law__454 : decode cL_law_ 454 = .ok (.iconst 1, 1) := by decide +kernel
theorem dL_law__455 : decode cL_law_ 455 = .ok (.iadd, 1) := by decide +kernel
theorem dL_law__456 : decode cL_law_ 456 = .ok (.iaload, 1) := by decide +kernel
theorem dL_law__457 : decode cL_law_ 457 = .ok (.aload_n 0, 1) := by decide +kernel
theorem dL_law__458 : decode cL_law_ 458 = .ok (.iload 4, 2) := by decide +kernel
theorem dL_law__460 : decode cL_law_ 460 = .ok (.iconst 2, 1) := by decide +kernel
theorem dL_law__461 : decode cL_law_ 461 = .ok (.iadd, 1) := by decide +kernel
theorem dL_law__462 : decode cL_law_ 462 = .ok (.iaload, 1) := by decide +kernel
theorem dL_law__463 : decode cL_law_ 463 = .ok (.invokevirtual 152, 3) := by decide +kernel
theorem dL_law__466 : decode cL_law_ 466 = .ok (.istore 6, 2) := by decide +kernel
theorem dL_law__468 : decode cL_law_ 468 = .ok (.aload_n 2, 1) := by decide +kernel
theorem dL_law__469 : decode cL_law_ 469 = .ok (.invokevirtual 139, 3) := by decide +kernel
theorem dL_law__472 : decode cL_law_ 472 = .ok (.iload 5, 2) := by decide +kernel
theorem dL_law__474 : decode cL_law_ 474 = .ok (.if_icmp .eq 5, 3) := by decide +kernel
theorem dL_law__477 : decode cL_law_ 477 = .ok (.iconst 0, 1) := by decide +kernel
theorem dL_law__478 : decode cL_law_ 478 = .ok (.ireturn, 1) := by decide +kernel
theorem dL_law__479 : decode cL_law_ 479 = .ok (.iload 5, 2) := by decide +kernel
theorem dL_law__481 : decode cL_law_ 481 = .ok (.ifCond .ne 15, 3) := by decide +kernel
theorem dL_law__484 : decode cL_law_ 484 = .ok (.aload_n 3, 1) := by decide +kernel
theorem dL_law__485 : decode cL_law_ 485 = .ok (.iconst 0, 1) := by decide +kernel
theorem dL_law__486 : decode cL_law_ 486 = .ok (.laload, 1) := by decide +kernel
theorem dL_law__487 : decode cL_law_ 487 = .ok (.iload 6, 2) := by decide +kernel
theorem dL_law__489 : decode cL_law_ 489 = .ok (.i2l, 1) := by decide +kernel
theorem dL_law__490 : decode cL_law_ 490 = .ok (.lcmp, 1) := by decide +kernel
theorem dL_law__491 : decode cL_law_ 491 = .ok (.ifCond .eq 5, 3) := by decide +kernel
theorem dL_law__494 : decode cL_law_ 494 = .ok (.iconst 0, 1) := by decide +kernel
theorem dL_law__495 : decode cL_law_ 495 = .ok (.ireturn, 1) := by decide +kernel
theorem dL_law__496 : decode cL_law_ 496 = .ok (.goto 2026, 3) := by decide +kernel
theorem dL_law__499 : decode cL_law_ 499 = .ok (.aload_n 1, 1) := by decide +kernel
theorem dL_law__500 : decode cL_law_ 500 = .ok (.aload_n 0, 1) := by decide +kernel
theorem dL_law__501 : decode cL_law_ 501 = .ok (.iload 4, 2) := by decide +kernel
theorem dL_law__503 : decode cL_law_ 503 = .ok (.iconst 1, 1) := by decide +kernel
theorem dL_law__504 : decode cL_law_ 504 = .ok (.iadd, 1) := by decide +kernel
theorem dL_law__505 : decode cL_law_ 505 = .ok (.iaload, 1) := by decide +kernel
theorem dL_law__506 : decode cL_law_ 506 = .ok (.aload_n 0, 1) := by decide +kernel
theorem dL_law__507 : decode cL_law_ 507 = .ok (.iload 4, 2) := by decide +kernel
theorem dL_law__509 : decode cL_law_ 509 = .ok (.iconst 2, 1) := by decide +kernel
theorem dL_law__510 : decode cL_law_ 510 = .ok (.iadd, 1) := by decide +kernel
theorem dL_law__511 : decode cL_law_ 511 = .ok (.iaload, 1) := by decide +kernel
theorem dL_law__512 : decode cL_law_ 512 = .ok (.aload_n 3, 1) := by decide +kernel
theorem dL_law__513 : decode cL_law_ 513 = .ok (.invokestatic 153, 3) := by decide +kernel
theorem dL_law__516 : decode cL_law_ 516 = .ok (.istore 5, 2) := by decide +kernel
theorem dL_law__518 : decode cL_law_ 518 = .ok (.aload_n 2, 1) := by decide +kernel
theorem dL_law__519 : decode cL_law_ 519 = .ok (.aload_n 0, 1) := by decide +kernel
theorem dL_law__520 : decode cL_law_ 520 = .ok (.iload 4, 2) := by decide +kernel
theorem dL_law__522 : decode cL_law_ 522 = .ok (.iconst 1, 1) := by decide +kernel
theorem dL_law__523 : decode cL_law_ 523 = .ok (.iadd, 1) := by decide +kernel
theorem dL_law__524 : decode cL_law_ 524 = .ok (.iaload, 1) := by decide +kernel
theorem dL_law__525 : decode cL_law_ 525 = .ok (.aload_n 0, 1) := by decide +kernel
theorem dL_law__526 : decode cL_law_ 526 = .ok (.iload 4, 2) := by decide +kernel
theorem dL_law__528 : decode cL_law_ 528 = .ok (.iconst 2, 1) := by decide +kernel
theorem dL_law__529 : decode cL_law_ 529 = .ok (.iadd, 1) := by decide +kernel
theorem dL_law__530 : decode cL_law_ 530 = .ok (.iaload, 1) := by decide +kernel
theorem dL_law__531 : decode cL_law_ 531 = .ok (.invokevirtual 155, 3) := by decide +kernel
theorem dL_law__534 : decode cL_law_ 534 = .ok (.istore 6, 2) := by decide +kernel
theorem dL_law__536 : decode cL_law_ 536 = .ok (.aload_n 2, 1) := by decide +kernel
theorem dL_law__537 : decode cL_law_ 537 = .ok (.invokevirtual 139, 3) := by decide +kernel
theorem dL_law__540 : decode cL_law_ 540 = .ok (.iload 5, 2) := by decide +kernel
theorem dL_law__542 : decode cL_law_ 542 = .ok (.if_icmp .eq 5, 3) := by decide +kernel
theorem dL_law__545 : decode cL_law_ 545 = .ok (.iconst 0, 1) := by decide +kernel
theorem dL_law__546 : decode cL_law_ 546 = .ok (.ireturn, 1) := by decide +kernel
theorem dL_law__547 : decode cL_law_ 547 = .ok (.iload 5, 2) := by decide +kernel
theorem dL_law__549 : decode cL_law_ 549 = .ok (.ifCond .ne 15, 3) := by decide +kernel
theorem dL_law__552 : decode cL_law_ 552 = .ok (.aload_n 3, 1) := by decide +kernel
theorem dL_law__553 : decode cL_law_ 553 = .ok (.iconst 0, 1) := by decide +kernel
theorem dL_law__554 : decode cL_law_ 554 = .ok (.laload, 1) := by decide +kernel
theorem dL_law__555 : decode cL_law_ 555 = .ok (.iload 6, 2) := by decide +kernel
theorem dL_law__557 : decode cL_law_ 557 = .ok (.i2l, 1) := by decide +kernel
theorem dL_law__558 : decode cL_law_ 558 = .ok (.lcmp, 1) := by decide +kernel
theorem dL_law__559 : decode cL_law_ 559 = .ok (.ifCond .eq 5, 3) := by decide +kernel
theorem dL_law__562 : decode cL_law_ 562 = .ok (.iconst 0, 1) := by decide +kernel
theorem dL_law__563 : decode cL_law_ 563 = .ok (.ireturn, 1) := by decide +kernel
theorem dL_law__564 : decode cL_law_ 564 = .ok (.goto 1958, 3) := by decide +kernel
theorem dL_law__567 : decode cL_law_ 567 = .ok (.aload_n 1, 1) := by decide +kernel
theorem dL_law__568 : decode cL_law_ 568 = .ok (.aload_n 0, 1) := by decide +kernel
theorem dL_law__569 : decode cL_law_ 569 = .ok (.iload 4, 2) := by decide +kernel
theorem dL_law__571 : decode cL_law_ 571 = .ok (.iconst 1, 1) := by decide +kernel
theorem dL_law__572 : decode cL_law_ 572 = .ok (.iadd, 1) := by decide +kernel
theorem dL_law__573 : decode cL_law_ 573 = .ok (.iaload, 1) := by decide +kernel
theorem dL_law__574 : decode cL_law_ 574 = .ok (.aload_n 0, 1) := by decide +kernel
theorem dL_law__575 : decode cL_law_ 575 = .ok (.iload 4, 2) := by decide +kernel
theorem dL_law__577 : decode cL_law_ 577 = .ok (.iconst 2, 1) := by decide +kernel
theorem dL_law__578 : decode cL_law_ 578 = .ok (.iadd, 1) := by decide +kernel
theorem dL_law__579 : decode cL_law_ 579 = .ok (.iaload, 1) := by decide +kernel
theorem dL_law__580 : decode cL_law_ 580 = .ok (.aload_n 3, 1) := by decide +kernel
theorem dL_law__581 : decode cL_law_ 581 = .ok (.invokestatic 156, 3) := by decide +kernel
theorem dL_law__584 : decode cL_law_ 584 = .ok (.istore 5, 2) := by decide +kernel
theorem dL_law__586 : decode cL_law_ 586 = .ok (.aload_n 2, 1) := by decide +kernel
theorem dL_law__587 : decode cL_law_ 587 = .ok (.aload_n 0, 1) := by decide +kernel
theorem dL_law__588 : decode cL_law_ 588 = .ok (.iload 4, 2) := by decide +kernel
theorem dL_law__590 : decode cL_law_ 590 = .ok (.iconst 1, 1) := by decide +kernel
theorem dL_law__591 : decode cL_law_ 591 = .ok (.iadd, 1) := by decide +kernel
theorem dL_law__592 : decode cL_law_ 592 = .ok (.iaload, 1) := by decide +kernel
theorem dL_law__593 : decode cL_law_ 593 = .ok (.aload_n 0, 1) := by decide +kernel
theorem dL_law__594 : decode cL_law_ 594 = .ok (.iload 4, 2) := by decide +kernel
theorem dL_law__596 : decode cL_law_ 596 = .ok (.iconst 2, 1) := by decide +kernel
theorem dL_law__597 : decode cL_law_ 597 = .ok (.iadd, 1) := by decide +kernel
theorem dL_law__598 : decode cL_law_ 598 = .ok (.iaload, 1) := by decide +kernel
theorem dL_law__599 : decode cL_law_ 599 = .ok (.invokevirtual 158, 3) := by decide +kernel
theorem dL_law__602 : decode cL_law_ 602 = .ok (.istore 6, 2) := by decide +kernel
theorem dL_law__604 : decode cL_law_ 604 = .ok (.aload_n 2, 1) := by decide +kernel
theorem dL_law__605 : decode cL_law_ 605 = .ok (.invokevirtual 139, 3) := by decide +kernel
theorem dL_law__608 : decode cL_law_ 608 = .ok (.iload 5, 2) := by decide +kernel
theorem dL_law__610 : decode cL_law_ 610 = .ok (.if_icmp .eq 5, 3) := by decide +kernel
theorem dL_law__613 : decode cL_law_ 613 = .ok (.iconst 0, 1) := by decide +kernel
theorem dL_law__614 : decode cL_law_ 614 = .ok (.ireturn, 1) := by decide +kernel
theorem dL_law__615 : decode cL_law_ 615 = .ok (.iload 5, 2) := by decide +kernel
theorem dL_law__617 : decode cL_law_ 617 = .ok (.ifCond .ne 15, 3) := by decide +kernel
theorem dL_law__620 : decode cL_law_ 620 = .ok (.aload_n 3, 1) := by decide +kernel
theorem dL_law__621 : decode cL_law_ 621 = .ok (.iconst 0, 1) := by decide +kernel
theorem dL_law__622 : decode cL_law_ 622 = .ok (.laload, 1) := by decide +kernel
theorem dL_law__623 : decode cL_law_ 623 = .ok (.iload 6, 2) := by decide +kernel
theorem dL_law__625 : decode cL_law_ 625 = .ok (.i2l, 1) := by decide +kernel
theorem dL_law__626 : decode cL_law_ 626 = .ok (.lcmp, 1) := by decide +kernel
theorem dL_law__627 : decode cL_law_ 627 = .ok (.ifCond .eq 5, 3) := by decide +kernel
theorem dL_law__630 : decode cL_law_ 630 = .ok (.iconst 0, 1) := by decide +kernel
theorem dL_law__631 : decode cL_law_ 631 = .ok (.ireturn, 1) := by decide +kernel
theorem dL_law__632 : decode cL_law_ 632 = .ok (.goto 1890, 3) := by decide +kernel
theorem dL_law__635 : decode cL_law_ 635 = .ok (.aload_n 1, 1) := by decide +kernel
theorem dL_law__636 : decode cL_law_ 636 = .ok (.aload_n 0, 1) := by decide +kernel
theorem dL_law__637 : decode cL_law_ 637 = .ok (.iload 4, 2) := by decide +kernel
theorem dL_law__639 : decode cL_law_ 639 = .ok (.iconst 1, 1) := by decide +kernel
theorem dL_law__640 : decode cL_law_ 640 = .ok (.iadd, 1) := by decide +kernel
theorem dL_law__641 : decode cL_law_ 641 = .ok (.iaload, 1) := by decide +kernel
theorem dL_law__642 : decode cL_law_ 642 = .ok (.aload_n 0, 1) := by decide +kernel
theorem dL_law__643 : decode cL_law_ 643 = .ok (.iload 4, 2) := by decide +kernel
theorem dL_law__645 : decode cL_law_ 645 = .ok (.iconst 2, 1) := by decide +kernel
theorem dL_law__646 : decode cL_law_ 646 = .ok (.iadd, 1) := by decide +kernel
theorem dL_law__647 : decode cL_law_ 647 = .ok (.iaload, 1) := by decide +kernel
theorem dL_law__648 : decode cL_law_ 648 = .ok (.aload_n 3, 1) := by decide +kernel
theorem dL_law__649 : decode cL_law_ 649 = .ok (.invokestatic 159, 3) := by decide +kernel
theorem dL_law__652 : decode cL_law_ 652 = .ok (.istore 5, 2) := by decide +kernel
theorem dL_law__654 : decode cL_law_ 654 = .ok (.aload_n 2, 1) := by decide +kernel
theorem dL_law__655 : decode cL_law_ 655 = .ok (.aload_n 0, 1) := by decide +kernel
theorem dL_law__656 : decode cL_law_ 656 = .ok (.iload 4, 2) := by decide +kernel
theorem dL_law__658 : decode cL_law_ 658 = .ok (.iconst 1, 1) := by decide +kernel
theorem dL_law__659 : decode cL_law_ 659 = .ok (.iadd, 1) := by decide +kernel
theorem dL_law__660 : decode cL_law_ 660 = .ok (.iaload, 1) := by decide +kernel
theorem dL_law__661 : decode cL_law_ 661 = .ok (.aload_n 0, 1) := by decide +kernel
theorem dL_law__662 : decode cL_law_ 662 = .ok (.iload 4, 2) := by decide +kernel
theorem dL_law__664 : decode cL_law_ 664 = .ok (.iconst 2, 1) := by decide +kernel
theorem dL_law__665 : decode cL_law_ 665 = .ok (.iadd, 1) := by decide +kernel
theorem dL_law__666 : decode cL_law_ 666 = .ok (.iaload, 1) := by decide +kernel
theorem dL_law__667 : decode cL_law_ 667 = .ok (.invokevirtual 161, 3) := by decide +kernel
theorem dL_law__670 : decode cL_law_ 670 = .ok (.istore 6, 2) := by decide +kernel
theorem dL_law__672 : decode cL_law_ 672 = .ok (.aload_n 2, 1) := by decide +kernel
theorem dL_law__673 : decode cL_law_ 673 = .ok (.invokevirtual 139, 3) := by decide +kernel
theorem dL_law__676 : decode cL_law_ 676 = .ok (.iload 5, 2) := by decide +kernel
theorem dL_law__678 : decode cL_law_ 678 = .ok (.if_icmp .eq 5, 3) := by decide +kernel
theorem dL_law__681 : decode cL_law_ 681 = .ok (.iconst 0, 1) := by decide +kernel
theorem dL_law__682 : decode cL_law_ 682 = .ok (.ireturn, 1) := by decide +kernel
theorem dL_law__683 : decode cL_law_ 683 = .ok (.iload 5, 2) := by decide +kernel
theorem dL_law__685 : decode cL_law_ 685 = .ok (.ifCond .ne 22, 3) := by decide +kernel
theorem dL_law__688 : decode cL_law_ 688 = .ok (.aload_n 3, 1) := by decide +kernel
theorem dL_law__689 : decode cL_law_ 689 = .ok (.iconst 0, 1) := by decide +kernel
theorem dL_law__690 : decode cL_law_ 690 = .ok (.laload, 1) := by decide +kernel
theorem dL_law__691 : decode cL_law_ 691 = .ok (.iload 6, 2) := by decide +kernel
theorem dL_law__693 : decode cL_law_ 693 = .ok (.ifCond .eq 7, 3) := by decide +kernel
theorem dL_law__696 : decode cL_law_ 696 = .ok (.lconst 1, 1) := by decide +kernel
theorem dL_law__697 : decode cL_law_ 697 = .ok (.goto 4, 3) := by decide +kernel
theorem dL_law__700 : decode cL_law_ 700 = .ok (.lconst 0, 1) := by decide +kernel
theorem dL_law__701 : decode cL_law_ 701 = .ok (.lcmp, 1) := by decide +kernel
theorem dL_law__702 : decode cL_law_ 702 = .ok (.ifCond .eq 5, 3) := by decide +kernel
theorem dL_law__705 : decode cL_law_ 705 = .ok (.iconst 0, 1) := by decide +kernel
theorem dL_law__706 : decode cL_law_ 706 = .ok (.ireturn, 1) := by decide +kernel
theorem dL_law__707 : decode cL_law_ 707 = .ok (.goto 1815, 3) := by decide +kernel
theorem dL_law__710 : decode cL_law_ 710 = .ok (.aload_n 1, 1) := by decide +kernel
theorem dL_law__711 : decode cL_law_ 711 = .ok (.aload_n 0, 1) := by decide +kernel
theorem dL_law__712 : decode cL_law_ 712 = .ok (.iload 4, 2) := by decide +kernel
theorem dL_law__714 : decode cL_law_ 714 = .ok (.iconst 1, 1) := by decide +kernel
theorem dL_law__715 : decode cL_law_ 715 = .ok (.iadd, 1) := by decide +kernel
theorem dL_law__716 : decode cL_law_ 716 = .ok (.iaload, 1) := by decide +kernel
theorem dL_law__717 : decode cL_law_ 717 = .ok (.aload_n 0, 1) := by decide +kernel
theorem dL_law__718 : decode cL_law_ 718 = .ok (.iload 4, 2) := by decide +kernel
theorem dL_law__720 : decode cL_law_ 720 = .ok (.iconst 2, 1) := by decide +kernel
theorem dL_law__721 : decode cL_law_ 721 = .ok (.iadd, 1) := by decide +kernel
theorem dL_law__722 : decode cL_law_ 722 = .ok (.iaload, 1) := by decide +kernel
theorem dL_law__723 : decode cL_law_ 723 = .ok (.aload_n 3, 1) := by decide +kernel
theorem dL_law__724 : decode cL_law_ 724 = .ok (.invokestatic 162, 3) := by decide +kernel
theorem dL_law__727 : decode cL_law_ 727 = .ok (.istore 5, 2) := by decide +kernel
theorem dL_law__729 : decode cL_law_ 729 = .ok (.aload_n 2, 1) := by decide +kernel
theorem dL_law__730 : decode cL_law_ 730 = .ok (.aload_n 0, 1) := by decide +kernel
theorem dL_law__731 : decode cL_law_ 731 = .ok (.iload 4, 2) := by decide +kernel
theorem dL_law__733 : decode cL_law_ 733 = .ok (.iconst 1, 1) := by decide +kernel
theorem dL_law__734 : decode cL_law_ 734 = .ok (.iadd, 1) := by decide +kernel
theorem dL_law__735 : decode cL_law_ 735 = .ok (.iaload, 1) := by decide +kernel
theorem dL_law__736 : decode cL_law_ 736 = .ok (.aload_n 0, 1) := by decide +kernel
theorem dL_law__737 : decode cL_law_ 737 = .ok (.iload 4, 2) := by decide +kernel
theorem dL_law__739 : decode cL_law_ 739 = .ok (.iconst 2, 1) := by decide +kernel
theorem dL_law__740 : decode cL_law_ 740 = .ok (.iadd, 1) := by decide +kernel
theorem dL_law__741 : decode cL_law_ 741 = .ok (.iaload, 1) := by decide +kernel
theorem dL_law__742 : decode cL_law_ 742 = .ok (.invokevirtual 164, 3) := by decide +kernel
theorem dL_law__745 : decode cL_law_ 745 = .ok (.istore 6, 2) := by decide +kernel
theorem dL_law__747 : decode cL_law_ 747 = .ok (.aload_n 2, 1) := by decide +kernel
theorem dL_law__748 : decode cL_law_ 748 = .ok (.invokevirtual 139, 3) := by decide +kernel
theorem dL_law__751 : decode cL_law_ 751 = .ok (.iload 5, 2) := by decide +kernel
theorem dL_law__753 : decode cL_law_ 753 = .ok (.if_icmp .eq 5, 3) := by decide +kernel
theorem dL_law__756 : decode cL_law_ 756 = .ok (.iconst 0, 1) := by decide +kernel
theorem dL_law__757 : decode cL_law_ 757 = .ok (.ireturn, 1) := by decide +kernel
theorem dL_law__758 : decode cL_law_ 758 = .ok (.iload 5, 2) := by decide +kernel
theorem dL_law__760 : decode cL_law_ 760 = .ok (.ifCond .ne 15, 3) := by decide +kernel
theorem dL_law__763 : decode cL_law_ 763 = .ok (.aload_n 3, 1) := by decide +kernel
theorem dL_law__764 : decode cL_law_ 764 = .ok (.iconst 0, 1) := by decide +kernel
theorem dL_law__765 : decode cL_law_ 765 = .ok (.laload, 1) := by decide +kernel
theorem dL_law__766 : decode cL_law_ 766 = .ok (.iload 6, 2) := by decide +kernel
theorem dL_law__768 : decode cL_law_ 768 = .ok (.i2l, 1) := by decide +kernel
theorem dL_law__769 : decode cL_law_ 769 = .ok (.lcmp, 1) := by decide +kernel
theorem dL_law__770 : decode cL_law_ 770 = .ok (.ifCond .eq 5, 3) := by decide +kernel
theorem dL_law__773 : decode cL_law_ 773 = .ok (.iconst 0, 1) := by decide +kernel
theorem dL_law__774 : decode cL_law_ 774 = .ok (.ireturn, 1) := by decide +kernel
theorem dL_law__775 : decode cL_law_ 775 = .ok (.goto 1747, 3) := by decide +kernel
theorem dL_law__778 : decode cL_law_ 778 = .ok (.aload_n 1, 1) := by decide +kernel
theorem dL_law__779 : decode cL_law_ 779 = .ok (.aload_n 0, 1) := by decide +kernel
theorem dL_law__780 : decode cL_law_ 780 = .ok (.iload 4, 2) := by decide +kernel
theorem dL_law__782 : decode cL_law_ 782 = .ok (.iconst 1, 1) := by decide +kernel
theorem dL_law__783 : decode cL_law_ 783 = .ok (.iadd, 1) := by decide +kernel
theorem dL_law__784 : decode cL_law_ 784 = .ok (.iaload, 1) := by decide +kernel
theorem dL_law__785 : decode cL_law_ 785 = .ok (.aload_n 0, 1) := by decide +kernel
theorem dL_law__786 : decode cL_law_ 786 = .ok (.iload 4, 2) := by decide +kernel
theorem dL_law__788 : decode cL_law_ 788 = .ok (.iconst 2, 1) := by decide +kernel
theorem dL_law__789 : decode cL_law_ 789 = .ok (.iadd, 1) := by decide +kernel
theorem dL_law__790 : decode cL_law_ 790 = .ok (.iaload, 1) := by decide +kernel
theorem dL_law__791 : decode cL_law_ 791 = .ok (.aload_n 3, 1) := by decide +kernel
theorem dL_law__792 : decode cL_law_ 792 = .ok (.invokestatic 165, 3) := by decide +kernel
theorem dL_law__795 : decode cL_law_ 795 = .ok (.istore 5, 2) := by decide +kernel
theorem dL_law__797 : decode cL_law_ 797 = .ok (.aload_n 2, 1) := by decide +kernel
theorem dL_law__798 : decode cL_law_ 798 = .ok (.aload_n 0, 1) := by decide +kernel
theorem dL_law__799 : decode cL_law_ 799 = .ok (.iload 4, 2) := by decide +kernel
theorem dL_law__801 : decode cL_law_ 801 = .ok (.iconst 1, 1) := by decide +kernel
theorem dL_law__802 : decode cL_law_ 802 = .ok (.iadd, 1) := by decide +kernel
theorem dL_law__803 : decode cL_law_ 803 = .ok (.iaload, 1) := by decide +kernel
theorem dL_law__804 : decode cL_law_ 804 = .ok (.aload_n 0, 1) := by decide +kernel
theorem dL_law__805 : decode cL_law_ 805 = .ok (.iload 4, 2) := by decide +kernel
theorem dL_law__807 : decode cL_law_ 807 = .ok (.iconst 2, 1) := by decide +kernel
theorem dL_law__808 : decode cL_law_ 808 = .ok (.iadd, 1) := by decide +kernel
theorem dL_law__809 : decode cL_law_ 809 = .ok (.iaload, 1) := by decide +kernel
theorem dL_law__810 : decode cL_law_ 810 = .ok (.invokevirtual 167, 3) := by decide +kernel
theorem dL_law__813 : decode cL_law_ 813 = .ok (.istore 6, 2) := by decide +kernel
theorem dL_law__815 : decode cL_law_ 815 = .ok (.aload_n 2, 1) := by decide +kernel
theorem dL_law__816 : decode cL_law_ 816 = .ok (.invokevirtual 139, 3) := by decide +kernel
theorem dL_law__819 : decode cL_law_ 819 = .ok (.iload 5, 2) := by decide +kernel
theorem dL_law__821 : decode cL_law_ 821 = .ok (.if_icmp .eq 5, 3) := by decide +kernel
theorem dL_law__824 : decode cL_law_ 824 = .ok (.iconst 0, 1) := by decide +kernel
theorem dL_law__825 : decode cL_law_ 825 = .ok (.ireturn, 1) := by decide +kernel
theorem dL_law__826 : decode cL_law_ 826 = .ok (.iload 5, 2) := by decide +kernel
theorem dL_law__828 : decode cL_law_ 828 = .ok (.ifCond .ne 15, 3) := by decide +kernel
theorem dL_law__831 : decode cL_law_ 831 = .ok (.aload_n 3, 1) := by decide +kernel
theorem dL_law__832 : decode cL_law_ 832 = .ok (.iconst 0, 1) := by decide +kernel
theorem dL_law__833 : decode cL_law_ 833 = .ok (.laload, 1) := by decide +kernel
theorem dL_law__834 : decode cL_law_ 834 = .ok (.iload 6, 2) := by decide +kernel
theorem dL_law__836 : decode cL_law_ 836 = .ok (.i2l, 1) := by decide +kernel
theorem dL_law__837 : decode cL_law_ 837 = .ok (.lcmp, 1) := by decide +kernel
theorem dL_law__838 : decode cL_law_ 838 = .ok (.ifCond .eq 5, 3) := by decide +kernel
theorem dL_law__841 : decode cL_law_ 841 = .ok (.iconst 0, 1) := by decide +kernel
theorem dL_law__842 : decode cL_law_ 842 = .ok (.ireturn, 1) := by decide +kernel
theorem dL_law__843 : decode cL_law_ 843 = .ok (.goto 1679, 3) := by decide +kernel
theorem dL_law__846 : decode cL_law_ 846 = .ok (.aload_n 1, 1) := by decide +kernel
theorem dL_law__847 : decode cL_law_ 847 = .ok (.aload_n 0, 1) := by decide +kernel
theorem dL_law__848 : decode cL_law_ 848 = .ok (.iload 4, 2) := by decide +kernel
theorem dL_law__850 : decode cL_law_ 850 = .ok (.iconst 1, 1) := by decide +kernel
theorem dL_law__851 : decode cL_law_ 851 = .ok (.iadd, 1) := by decide +kernel
theorem dL_law__852 : decode cL_law_ 852 = .ok (.iaload, 1) := by decide +kernel
theorem dL_law__853 : decode cL_law_ 853 = .ok (.aload_n 0, 1) := by decide +kernel
theorem dL_law__854 : decode cL_law_ 854 = .ok (.iload 4, 2) := by decide +kernel
theorem dL_law__856 : decode cL_law_ 856 = .ok (.iconst 2, 1) := by decide +kernel
theorem dL_law__857 : decode cL_law_ 857 = .ok (.iadd, 1) := by decide +kernel
theorem dL_law__858 : decode cL_law_ 858 = .ok (.iaload, 1) := by decide +kernel
theorem dL_law__859 : decode cL_law_ 859 = .ok (.aload_n 3, 1) := by decide +kernel
theorem dL_law__860 : decode cL_law_ 860 = .ok (.invokestatic 168, 3) := by decide +kernel
theorem dL_law__863 : decode cL_law_ 863 = .ok (.istore 5, 2) := by decide +kernel
theorem dL_law__865 : decode cL_law_ 865 = .ok (.aload_n 2, 1) := by decide +kernel
theorem dL_law__866 : decode cL_law_ 866 = .ok (.aload_n 0, 1) := by decide +kernel
theorem dL_law__867 : decode cL_law_ 867 = .ok (.iload 4, 2) := by decide +kernel
theorem dL_law__869 : decode cL_law_ 869 = .ok (.iconst 1, 1) := by decide +kernel
theorem dL_law__870 : decode cL_law_ 870 = .ok (.iadd, 1) := by decide +kernel
theorem dL_law__871 : decode cL_law_ 871 = .ok (.iaload, 1) := by decide +kernel
theorem dL_law__872 : decode cL_law_ 872 = .ok (.aload_n 0, 1) := by decide +kernel
theorem dL_law__873 : decode cL_law_ 873 = .ok (.iload 4, 2) := by decide +kernel
theorem dL_law__875 : decode cL_law_ 875 = .ok (.iconst 2, 1) := by decide +kernel
theorem dL_law__876 : decode cL_law_ 876 = .ok (.iadd, 1) := by decide +kernel
theorem dL_law__877 : decode cL_law_ 877 = .ok (.iaload, 1) := by decide +kernel
theorem dL_law__878 : decode cL_law_ 878 = .ok (.invokevirtual 170, 3) := by decide +kernel
theorem dL_law__881 : decode cL_law_ 881 = .ok (.istore 6, 2) := by decide +kernel
theorem dL_law__883 : decode cL_law_ 883 = .ok (.aload_n 2, 1) := by decide +kernel
theorem dL_law__884 : decode cL_law_ 884 = .ok (.invokevirtual 139, 3) := by decide +kernel
theorem dL_law__887 : decode cL_law_ 887 = .ok (.iload 5, 2) := by decide +kernel
theorem dL_law__889 : decode cL_law_ 889 = .ok (.if_icmp .eq 5, 3) := by decide +kernel
theorem dL_law__892 : decode cL_law_ 892 = .ok (.iconst 0, 1) := by decide +kernel
theorem dL_law__893 : decode cL_law_ 893 = .ok (.ireturn, 1) := by decide +kernel
theorem dL_law__894 : decode cL_law_ 894 = .ok (.iload 5, 2) := by decide +kernel
theorem dL_law__896 : decode cL_law_ 896 = .ok (.ifCond .ne 15, 3) := by decide +kernel
theorem dL_law__899 : decode cL_law_ 899 = .ok (.aload_n 3, 1) := by decide +kernel
theorem dL_law__900 : decode cL_law_ 900 = .ok (.iconst 0, 1) := by decide +kernel
theorem dL_law__901 : decode cL_law_ 901 = .ok (.laload, 1) := by decide +kernel
theorem dL_law__902 : decode cL_law_ 902 = .ok (.iload 6, 2) := by decide +kernel
theorem dL_law__904 : decode cL_law_ 904 = .ok (.i2l, 1) := by decide +kernel
theorem dL_law__905 : decode cL_law_ 905 = .ok (.lcmp, 1) := by decide +kernel
theorem dL_law__906 : decode cL_law_ 906 = .ok (.ifCond .eq 5, 3) := by decide +kernel
theorem dL_law__909 : decode cL_law_ 909 = .ok (.iconst 0, 1) := by decide +kernel
theorem dL_law__910 : decode cL_law_ 910 = .ok (.ireturn, 1) := by decide +kernel
theorem dL_law__911 : decode cL_law_ 911 = .ok (.goto 1611, 3) := by decide +kernel
theorem dL_law__914 : decode cL_law_ 914 = .ok (.aload_n 1, 1) := by decide +kernel
theorem dL_law__915 : decode cL_law_ 915 = .ok (.aload_n 0, 1) := by decide +kernel
theorem dL_law__916 : decode cL_law_ 916 = .ok (.iload 4, 2) := by decide +kernel
theorem dL_law__918 : decode cL_law_ 918 = .ok (.iconst 1, 1) := by decide +kernel
theorem dL_law__919 : decode cL_law_ 919 = .ok (.iadd, 1) := by decide +kernel
theorem dL_law__920 : decode cL_law_ 920 = .ok (.iaload, 1) := by decide +kernel
theorem dL_law__921 : decode cL_law_ 921 = .ok (.aload_n 0, 1) := by decide +kernel
theorem dL_law__922 : decode cL_law_ 922 = .ok (.iload 4, 2) := by decide +kernel
theorem dL_law__924 : decode cL_law_ 924 = .ok (.iconst 2, 1) := by decide +kernel
theorem dL_law__925 : decode cL_law_ 925 = .ok (.iadd, 1) := by decide +kernel
theorem dL_law__926 : decode cL_law_ 926 = .ok (.iaload, 1) := by decide +kernel
theorem dL_law__927 : decode cL_law_ 927 = .ok (.aload_n 3, 1) := by decide +kernel
theorem dL_law__928 : decode cL_law_ 928 = .ok (.invokestatic 171, 3) := by decide +kernel
theorem dL_law__931 : decode cL_law_ 931 = .ok (.istore 5, 2) := by decide +kernel
theorem dL_law__933 : decode cL_law_ 933 = .ok (.aload_n 2, 1) := by decide +kernel
theorem dL_law__934 : decode cL_law_ 934 = .ok (.aload_n 0, 1) := by decide +kernel
theorem dL_law__935 : decode cL_law_ 935 = .ok (.iload 4, 2) := by decide +kernel
theorem dL_law__937 : decode cL_law_ 937 = .ok (.iconst 1, 1) := by decide +kernel
theorem dL_law__938 : decode cL_law_ 938 = .ok (.iadd, 1) := by decide +kernel
theorem dL_law__939 : decode cL_law_ 939 = .ok (.iaload, 1) := by decide +kernel
theorem dL_law__940 : decode cL_law_ 940 = .ok (.aload_n 0, 1) := by decide +kernel
theorem dL_law__941 : decode cL_law_ 941 = .ok (.iload 4, 2) := by decide +kernel
theorem dL_law__943 : decode cL_law_ 943 = .ok (.iconst 2, 1) := by decide +kernel
theorem dL_law__944 : decode cL_law_ 944 = .ok (.iadd, 1) := by decide +kernel
theorem dL_law__945 : decode cL_law_ 945 = .ok (.iaload, 1) := by decide +kernel
theorem dL_law__946 : decode cL_law_ 946 = .ok (.invokevirtual 173, 3) := by decide +kernel
theorem dL_law__949 : decode cL_law_ 949 = .ok (.istore 6, 2) := by decide +kernel
theorem dL_law__951 : decode cL_law_ 951 = .ok (.aload_n 2, 1) := by decide +kernel
theorem dL_law__952 : decode cL_law_ 952 = .ok (.invokevirtual 139, 3) := by decide +kernel
theorem dL_law__955 : decode cL_law_ 955 = .ok (.iload 5, 2) := by decide +kernel
theorem dL_law__957 : decode cL_law_ 957 = .ok (.if_icmp .eq 5, 3) := by decide +kernel
theorem dL_law__960 : decode cL_law_ 960 = .ok (.iconst 0, 1) := by decide +kernel
theorem dL_law__961 : decode cL_law_ 961 = .ok (.ireturn, 1) := by decide +kernel
theorem dL_law__962 : decode cL_law_ 962 = .ok (.iload 5, 2) := by decide +kernel
theorem dL_law__964 : decode cL_law_ 964 = .ok (.ifCond .ne 15, 3) := by decide +kernel
theorem dL_law__967 : decode cL_law_ 967 = .ok (.aload_n 3, 1) := by decide +kernel
theorem dL_law__968 : decode cL_law_ 968 = .ok (.iconst 0, 1) := by decide +kernel
theorem dL_law__969 : decode cL_law_ 969 = .ok (.laload, 1) := by decide +kernel
theorem dL_law__970 : decode cL_law_ 970 = .ok (.iload 6, 2) := by decide +kernel
theorem dL_law__972 : decode cL_law_ 972 = .ok (.i2l, 1) := by decide +kernel
theorem dL_law__973 : decode cL_law_ 973 = .ok (.lcmp, 1) := by decide +kernel
theorem dL_law__974 : decode cL_law_ 974 = .ok (.ifCond .eq 5, 3) := by decide +kernel
theorem dL_law__977 : decode cL_law_ 977 = .ok (.iconst 0, 1) := by decide +kernel
theorem dL_law__978 : decode cL_law_ 978 = .ok (.ireturn, 1) := by decide +kernel
theorem dL_law__979 : decode cL_law_ 979 = .ok (.goto 1543, 3) := by decide +kernel
theorem dL_law__982 : decode cL_law_ 982 = .ok (.aload_n 1, 1) := by decide +kernel
theorem dL_law__983 : decode cL_law_ 983 = .ok (.aload_n 0, 1) := by decide +kernel
theorem dL_law__984 : decode cL_law_ 984 = .ok (.iload 4, 2) := by decide +kernel
theorem dL_law__986 : decode cL_law_ 986 = .ok (.iconst 1, 1) := by decide +kernel
theorem dL_law__987 : decode cL_law_ 987 = .ok (.iadd, 1) := by decide +kernel
theorem dL_law__988 : decode cL_law_ 988 = .ok (.iaload, 1) := by decide +kernel
theorem dL_law__989 : decode cL_law_ 989 = .ok (.aload_n 3, 1) := by decide +kernel
theorem dL_law__990 : decode cL_law_ 990 = .ok (.invokestatic 174, 3) := by decide +kernel
theorem dL_law__993 : decode cL_law_ 993 = .ok (.istore 5, 2) := by decide +kernel
theorem dL_law__995 : decode cL_law_ 995 = .ok (.aload_n 2, 1) := by decide +kernel
theorem dL_law__996 : decode cL_law_ 996 = .ok (.aload_n 0, 1) := by decide +kernel
theorem dL_law__997 : decode cL_law_ 997 = .ok (.iload 4, 2) := by decide +kernel
theorem dL_law__999 : decode cL_law_ 999 = .ok (.iconst 1, 1) := by decide +kernel
theorem dL_law__1000 : decode cL_law_ 1000 = .ok (.iadd, 1) := by decide +kernel
theorem dL_law__1001 : decode cL_law_ 1001 = .ok (.iaload, 1) := by decide +kernel
theorem dL_law__1002 : decode cL_law_ 1002 = .ok (.invokevirtual 177, 3) := by decide +kernel
theorem dL_law__1005 : decode cL_law_ 1005 = .ok (.istore 6, 2) := by decide +kernel
theorem dL_law__1007 : decode cL_law_ 1007 = .ok (.aload_n 2, 1) := by decide +kernel
theorem dL_law__1008 : decode cL_law_ 1008 = .ok (.invokevirtual 139, 3) := by decide +kernel
theorem dL_law__1011 : decode cL_law_ 1011 = .ok (.iload 5, 2) := by decide +kernel
theorem dL_law__1013 : decode cL_law_ 1013 = .ok (.if_icmp .eq 5, 3) := by decide +kernel
theorem dL_law__1016 : decode cL_law_ 1016 = .ok (.iconst 0, 1) := by decide +kernel
theorem dL_law__1017 : decode cL_law_ 1017 = .ok (.ireturn, 1) := by decide +kernel
theorem dL_law__1018 : decode cL_law_ 1018 = .ok (.iload 5, 2) := by decide +kernel
theorem dL_law__1020 : decode cL_law_ 1020 = .ok (.ifCond .ne 15, 3) := by decide +kernel
theorem dL_law__1023 : decode cL_law_ 1023 = .ok (.aload_n 3, 1) := by decide +kernel
theorem dL_law__1024 : decode cL_law_ 1024 = .ok (.iconst 0, 1) := by decide +kernel
theorem dL_law__1025 : decode cL_law_ 1025 = .ok (.laload, 1) := by decide +kernel
theorem dL_law__1026 : decode cL_law_ 1026 = .ok (.iload 6, 2) := by decide +kernel
theorem dL_law__1028 : decode cL_law_ 1028 = .ok (.i2l, 1) := by decide +kernel
theorem dL_law__1029 : decode cL_law_ 1029 = .ok (.lcmp, 1) := by decide +kernel
theorem dL_law__1030 : decode cL_law_ 1030 = .ok (.ifCond .eq 5, 3) := by decide +kernel
theorem dL_law__1033 : decode cL_law_ 1033 = .ok (.iconst 0, 1) := by decide +kernel
theorem dL_law__1034 : decode cL_law_ 1034 = .ok (.ireturn, 1) := by decide +kernel
theorem dL_law__1035 : decode cL_law_ 1035 = .ok (.goto 1487, 3) := by decide +kernel
theorem dL_law__1038 : decode cL_law_ 1038 = .ok (.aload_n 1, 1) := by decide +kernel
theorem dL_law__1039 : decode cL_law_ 1039 = .ok (.aload_n 0, 1) := by decide +kernel
theorem dL_law__1040 : decode cL_law_ 1040 = .ok (.iload 4, 2) := by decide +kernel
theorem dL_law__1042 : decode cL_law_ 1042 = .ok (.iconst 1, 1) := by decide +kernel
theorem dL_law__1043 : decode cL_law_ 1043 = .ok (.iadd, 1) := by decide +kernel
theorem dL_law__1044 : decode cL_law_ 1044 = .ok (.iaload, 1) := by decide +kernel
theorem dL_law__1045 : decode cL_law_ 1045 = .ok (.aload_n 3, 1) := by decide +kernel
theorem dL_law__1046 : decode cL_law_ 1046 = .ok (.invokestatic 178, 3) := by decide +kernel
theorem dL_law__1049 : decode cL_law_ 1049 = .ok (.istore 5, 2) := by decide +kernel
theorem dL_law__1051 : decode cL_law_ 1051 = .ok (.aload_n 2, 1) := by decide +kernel
theorem dL_law__1052 : decode cL_law_ 1052 = .ok (.aload_n 0, 1) := by decide +kernel
theorem dL_law__1053 : decode cL_law_ 1053 = .ok (.iload 4, 2) := by decide +kernel
theorem dL_law__1055 : decode cL_law_ 1055 = .ok (.iconst 1, 1) := by decide +kernel
theorem dL_law__1056 : decode cL_law_ 1056 = .ok (.iadd, 1) := by decide +kernel
theorem dL_law__1057 : decode cL_law_ 1057 = .ok (.iaload, 1) := by decide +kernel
theorem dL_law__1058 : decode cL_law_ 1058 = .ok (.invokevirtual 180, 3) := by decide +kernel
theorem dL_law__1061 : decode cL_law_ 1061 = .ok (.istore 6, 2) := by decide +kernel
theorem dL_law__1063 : decode cL_law_ 1063 = .ok (.aload_n 2, 1) := by decide +kernel
theorem dL_law__1064 : decode cL_law_ 1064 = .ok (.invokevirtual 139, 3) := by decide +kernel
theorem dL_law__1067 : decode cL_law_ 1067 = .ok (.iload 5, 2) := by decide +kernel
theorem dL_law__1069 : decode cL_law_ 1069 = .ok (.if_icmp .eq 5, 3) := by decide +kernel
theorem dL_law__1072 : decode cL_law_ 1072 = .ok (.iconst 0, 1) := by decide +kernel
theorem dL_law__1073 : decode cL_law_ 1073 = .ok (.ireturn, 1) := by decide +kernel
theorem dL_law__1074 : decode cL_law_ 1074 = .ok (.iload 5, 2) := by decide +kernel
theorem dL_law__1076 : decode cL_law_ 1076 = .ok (.ifCond .ne 15, 3) := by decide +kernel
theorem dL_law__1079 : decode cL_law_ 1079 = .ok (.aload_n 3, 1) := by decide +kernel
theorem dL_law__1080 : decode cL_law_ 1080 = .ok (.iconst 0, 1) := by decide +kernel
theorem dL_law__1081 : decode cL_law_ 1081 = .ok (.laload, 1) := by decide +kernel
theorem dL_law__1082 : decode cL_law_ 1082 = .ok (.iload 6, 2) := by decide +kernel
theorem dL_law__1084 : decode cL_law_ 1084 = .ok (.i2l, 1) := by decide +kernel
theorem dL_law__1085 : decode cL_law_ 1085 = .ok (.lcmp, 1) := by decide +kernel
theorem dL_law__1086 : decode cL_law_ 1086 = .ok (.ifCond .eq 5, 3) := by decide +kernel
theorem dL_law__1089 : decode cL_law_ 1089 = .ok (.iconst 0, 1) := by decide +kernel
theorem dL_law__1090 : decode cL_law_ 1090 = .ok (.ireturn, 1) := by decide +kernel
theorem dL_law__1091 : decode cL_law_ 1091 = .ok (.goto 1431, 3) := by decide +kernel
theorem dL_law__1094 : decode cL_law_ 1094 = .ok (.aload_n 1, 1) := by decide +kernel
theorem dL_law__1095 : decode cL_law_ 1095 = .ok (.aload_n 0, 1) := by decide +kernel
theorem dL_law__1096 : decode cL_law_ 1096 = .ok (.iload 4, 2) := by decide +kernel
theorem dL_law__1098 : decode cL_law_ 1098 = .ok (.iconst 1, 1) := by decide +kernel
theorem dL_law__1099 : decode cL_law_ 1099 = .ok (.iadd, 1) := by decide +kernel
theorem dL_law__1100 : decode cL_law_ 1100 = .ok (.iaload, 1) := by decide +kernel
theorem dL_law__1101 : decode cL_law_ 1101 = .ok (.aload_n 0, 1) := by decide +kernel
theorem dL_law__1102 : decode cL_law_ 1102 = .ok (.iload 4, 2) := by decide +kernel
theorem dL_law__1104 : decode cL_law_ 1104 = .ok (.iconst 2, 1) := by decide +kernel
theorem dL_law__1105 : decode cL_law_ 1105 = .ok (.iadd, 1) := by decide +kernel
theorem dL_law__1106 : decode cL_law_ 1106 = .ok (.iaload, 1) := by decide +kernel
theorem dL_law__1107 : decode cL_law_ 1107 = .ok (.aload_n 3, 1) := by decide +kernel
theorem dL_law__1108 : decode cL_law_ 1108 = .ok (.invokestatic 181, 3) := by decide +kernel
theorem dL_law__1111 : decode cL_law_ 1111 = .ok (.istore 5, 2) := by decide +kernel
theorem dL_law__1113 : decode cL_law_ 1113 = .ok (.aload_n 2, 1) := by decide +kernel
theorem dL_law__1114 : decode cL_law_ 1114 = .ok (.aload_n 0, 1) := by decide +kernel
theorem dL_law__1115 : decode cL_law_ 1115 = .ok (.iload 4, 2) := by decide +kernel
theorem dL_law__1117 : decode cL_law_ 1117 = .ok (.iconst 1, 1) := by decide +kernel
theorem dL_law__1118 : decode cL_law_ 1118 = .ok (.iadd, 1) := by decide +kernel
theorem dL_law__1119 : decode cL_law_ 1119 = .ok (.iaload, 1) := by decide +kernel
theorem dL_law__1120 : decode cL_law_ 1120 = .ok (.aload_n 0, 1) := by decide +kernel
theorem dL_law__1121 : decode cL_law_ 1121 = .ok (.iload 4, 2) := by decide +kernel
theorem dL_law__1123 : decode cL_law_ 1123 = .ok (.iconst 2, 1) := by decide +kernel
theorem dL_law__1124 : decode cL_law_ 1124 = .ok (.iadd, 1) := by decide +kernel
theorem dL_law__1125 : decode cL_law_ 1125 = .ok (.iaload, 1) := by decide +kernel
theorem dL_law__1126 : decode cL_law_ 1126 = .ok (.invokevirtual 183, 3) := by decide +kernel
theorem dL_law__1129 : decode cL_law_ 1129 = .ok (.istore 6, 2) := by decide +kernel
theorem dL_law__1131 : decode cL_law_ 1131 = .ok (.aload_n 2, 1) := by decide +kernel
theorem dL_law__1132 : decode cL_law_ 1132 = .ok (.invokevirtual 139, 3) := by decide +kernel
theorem dL_law__1135 : decode cL_law_ 1135 = .ok (.iload 5, 2) := by decide +kernel
theorem dL_law__1137 : decode cL_law_ 1137 = .ok (.if_icmp .eq 5, 3) := by decide +kernel
theorem dL_law__1140 : decode cL_law_ 1140 = .ok (.iconst 0, 1) := by decide +kernel
theorem dL_law__1141 : decode cL_law_ 1141 = .ok (.ireturn, 1) := by decide +kernel
theorem dL_law__1142 : decode cL_law_ 1142 = .ok (.iload 5, 2) := by decide +kernel
theorem dL_law__1144 : decode cL_law_ 1144 = .ok (.ifCond .ne 15, 3) := by decide +kernel
theorem dL_law__1147 : decode cL_law_ 1147 = .ok (.aload_n 3, 1) := by decide +kernel
theorem dL_law__1148 : decode cL_law_ 1148 = .ok (.iconst 0, 1) := by decide +kernel
theorem dL_law__1149 : decode cL_law_ 1149 = .ok (.laload, 1) := by decide +kernel
theorem dL_law__1150 : decode cL_law_ 1150 = .ok (.iload 6, 2) := by decide +kernel
theorem dL_law__1152 : decode cL_law_ 1152 = .ok (.i2l, 1) := by decide +kernel
theorem dL_law__1153 : decode cL_law_ 1153 = .ok (.lcmp, 1) := by decide +kernel
theorem dL_law__1154 : decode cL_law_ 1154 = .ok (.ifCond .eq 5, 3) := by decide +kernel
theorem dL_law__1157 : decode cL_law_ 1157 = .ok (.iconst 0, 1) := by decide +kernel
theorem dL_law__1158 : decode cL_law_ 1158 = .ok (.ireturn, 1) := by decide +kernel
theorem dL_law__1159 : decode cL_law_ 1159 = .ok (.goto 1363, 3) := by decide +kernel
theorem dL_law__1162 : decode cL_law_ 1162 = .ok (.aload_n 1, 1) := by decide +kernel
theorem dL_law__1163 : decode cL_law_ 1163 = .ok (.aload_n 0, 1) := by decide +kernel
theorem dL_law__1164 : decode cL_law_ 1164 = .ok (.iload 4, 2) := by decide +kernel
theorem dL_law__1166 : decode cL_law_ 1166 = .ok (.iconst 1, 1) := by decide +kernel
theorem dL_law__1167 : decode cL_law_ 1167 = .ok (.iadd, 1) := by decide +kernel
theorem dL_law__1168 : decode cL_law_ 1168 = .ok (.iaload, 1) := by decide +kernel
theorem dL_law__1169 : decode cL_law_ 1169 = .ok (.aload_n 3, 1) := by decide +kernel
theorem dL_law__1170 : decode cL_law_ 1170 = .ok (.invokestatic 184, 3) := by decide +kernel
theorem dL_law__1173 : decode cL_law_ 1173 = .ok (.istore 5, 2) := by decide +kernel
theorem dL_law__1175 : decode cL_law_ 1175 = .ok (.aload_n 2, 1) := by decide +kernel
theorem dL_law__1176 : decode cL_law_ 1176 = .ok (.aload_n 0, 1) := by decide +kernel
theorem dL_law__1177 : decode cL_law_ 1177 = .ok (.iload 4, 2) := by decide +kernel
theorem dL_law__1179 : decode cL_law_ 1179 = .ok (.iconst 1, 1) := by decide +kernel
theorem dL_law__1180 : decode cL_law_ 1180 = .ok (.iadd, 1) := by decide +kernel
theorem dL_law__1181 : decode cL_law_ 1181 = .ok (.iaload, 1) := by decide +kernel
theorem dL_law__1182 : decode cL_law_ 1182 = .ok (.invokevirtual 186, 3) := by decide +kernel
theorem dL_law__1185 : decode cL_law_ 1185 = .ok (.istore 6, 2) := by decide +kernel
theorem dL_law__1187 : decode cL_law_ 1187 = .ok (.aload_n 2, 1) := by decide +kernel
theorem dL_law__1188 : decode cL_law_ 1188 = .ok (.invokevirtual 139, 3) := by decide +kernel
theorem dL_law__1191 : decode cL_law_ 1191 = .ok (.iload 5, 2) := by decide +kernel
theorem dL_law__1193 : decode cL_law_ 1193 = .ok (.if_icmp .eq 5, 3) := by decide +kernel
theorem dL_law__1196 : decode cL_law_ 1196 = .ok (.iconst 0, 1) := by decide +kernel
theorem dL_law__1197 : decode cL_law_ 1197 = .ok (.ireturn, 1) := by decide +kernel
theorem dL_law__1198 : decode cL_law_ 1198 = .ok (.iload 5, 2) := by decide +kernel
theorem dL_law__1200 : decode cL_law_ 1200 = .ok (.ifCond .ne 15, 3) := by decide +kernel
theorem dL_law__1203 : decode cL_law_ 1203 = .ok (.aload_n 3, 1) := by decide +kernel
theorem dL_law__1204 : decode cL_law_ 1204 = .ok (.iconst 0, 1) := by decide +kernel
theorem dL_law__1205 : decode cL_law_ 1205 = .ok (.laload, 1) := by decide +kernel
theorem dL_law__1206 : decode cL_law_ 1206 = .ok (.iload 6, 2) := by decide +kernel
theorem dL_law__1208 : decode cL_law_ 1208 = .ok (.i2l, 1) := by decide +kernel
theorem dL_law__1209 : decode cL_law_ 1209 = .ok (.lcmp, 1) := by decide +kernel
theorem dL_law__1210 : decode cL_law_ 1210 = .ok (.ifCond .eq 5, 3) := by decide +kernel
theorem dL_law__1213 : decode cL_law_ 1213 = .ok (.iconst 0, 1) := by decide +kernel
theorem dL_law__1214 : decode cL_law_ 1214 = .ok (.ireturn, 1) := by decide +kernel
theorem dL_law__1215 : decode cL_law_ 1215 = .ok (.goto 1307, 3) := by decide +kernel
theorem dL_law__1218 : decode cL_law_ 1218 = .ok (.aload_n 1, 1) := by decide +kernel
theorem dL_law__1219 : decode cL_law_ 1219 = .ok (.aload_n 0, 1) := by decide +kernel
theorem dL_law__1220 : decode cL_law_ 1220 = .ok (.iload 4, 2) := by decide +kernel
theorem dL_law__1222 : decode cL_law_ 1222 = .ok (.iconst 1, 1) := by decide +kernel
theorem dL_law__1223 : decode cL_law_ 1223 = .ok (.iadd, 1) := by decide +kernel
theorem dL_law__1224 : decode cL_law_ 1224 = .ok (.iaload, 1) := by decide +kernel
theorem dL_law__1225 : decode cL_law_ 1225 = .ok (.aload_n 0, 1) := by decide +kernel
theorem dL_law__1226 : decode cL_law_ 1226 = .ok (.iload 4, 2) := by decide +kernel
theorem dL_law__1228 : decode cL_law_ 1228 = .ok (.iconst 2, 1) := by decide +kernel
theorem dL_law__1229 : decode cL_law_ 1229 = .ok (.iadd, 1) := by decide +kernel
theorem dL_law__1230 : decode cL_law_ 1230 = .ok (.iaload, 1) := by decide +kernel
theorem dL_law__1231 : decode cL_law_ 1231 = .ok (.aload_n 3, 1) := by decide +kernel
theorem dL_law__1232 : decode cL_law_ 1232 = .ok (.invokestatic 187, 3) := by decide +kernel
theorem dL_law__1235 : decode cL_law_ 1235 = .ok (.istore 5, 2) := by decide +kernel
theorem dL_law__1237 : decode cL_law_ 1237 = .ok (.aload_n 2, 1) := by decide +kernel
theorem dL_law__1238 : decode cL_law_ 1238 = .ok (.aload_n 0, 1) := by decide +kernel
theorem dL_law__1239 : decode cL_law_ 1239 = .ok (.iload 4, 2) := by decide +kernel
theorem dL_law__1241 : decode cL_law_ 1241 = .ok (.iconst 1, 1) := by decide +kernel
theorem dL_law__1242 : decode cL_law_ 1242 = .ok (.iadd, 1) := by decide +kernel
theorem dL_law__1243 : decode cL_law_ 1243 = .ok (.iaload, 1) := by decide +kernel
theorem dL_law__1244 : decode cL_law_ 1244 = .ok (.aload_n 0, 1) := by decide +kernel
theorem dL_law__1245 : decode cL_law_ 1245 = .ok (.iload 4, 2) := by decide +kernel
theorem dL_law__1247 : decode cL_law_ 1247 = .ok (.iconst 2, 1) := by decide +kernel
theorem dL_law__1248 : decode cL_law_ 1248 = .ok (.iadd, 1) := by decide +kernel
theorem dL_law__1249 : decode cL_law_ 1249 = .ok (.iaload, 1) := by decide +kernel
theorem dL_law__1250 : decode cL_law_ 1250 = .ok (.invokevirtual 189, 3) := by decide +kernel
theorem dL_law__1253 : decode cL_law_ 1253 = .ok (.istore 6, 2) := by decide +kernel
theorem dL_law__1255 : decode cL_law_ 1255 = .ok (.aload_n 2, 1) := by decide +kernel
theorem dL_law__1256 : decode cL_law_ 1256 = .ok (.invokevirtual 139, 3) := by decide +kernel
theorem dL_law__1259 : decode cL_law_ 1259 = .ok (.iload 5, 2) := by decide +kernel
theorem dL_law__1261 : decode cL_law_ 1261 = .ok (.if_icmp .eq 5, 3) := by decide +kernel
theorem dL_law__1264 : decode cL_law_ 1264 = .ok (.iconst 0, 1) := by decide +kernel
theorem dL_law__1265 : decode cL_law_ 1265 = .ok (.ireturn, 1) := by decide +kernel
theorem dL_law__1266 : decode cL_law_ 1266 = .ok (.iload 5, 2) := by decide +kernel
theorem dL_law__1268 : decode cL_law_ 1268 = .ok (.ifCond .ne 15, 3) := by decide +kernel
theorem dL_law__1271 : decode cL_law_ 1271 = .ok (.aload_n 3, 1) := by decide +kernel
theorem dL_law__1272 : decode cL_law_ 1272 = .ok (.iconst 0, 1) := by decide +kernel
theorem dL_law__1273 : decode cL_law_ 1273 = .ok (.laload, 1) := by decide +kernel
theorem dL_law__1274 : decode cL_law_ 1274 = .ok (.iload 6, 2) := by decide +kernel
theorem dL_law__1276 : decode cL_law_ 1276 = .ok (.i2l, 1) := by decide +kernel
theorem dL_law__1277 : decode cL_law_ 1277 = .ok (.lcmp, 1) := by decide +kernel
theorem dL_law__1278 : decode cL_law_ 1278 = .ok (.ifCond .eq 5, 3) := by decide +kernel
theorem dL_law__1281 : decode cL_law_ 1281 = .ok (.iconst 0, 1) := by decide +kernel
theorem dL_law__1282 : decode cL_law_ 1282 = .ok (.ireturn, 1) := by decide +kernel
theorem dL_law__1283 : decode cL_law_ 1283 = .ok (.goto 1239, 3) := by decide +kernel
theorem dL_law__1286 : decode cL_law_ 1286 = .ok (.aload_n 1, 1) := by decide +kernel
theorem dL_law__1287 : decode cL_law_ 1287 = .ok (.aload_n 0, 1) := by decide +kernel
theorem dL_law__1288 : decode cL_law_ 1288 = .ok (.iload 4, 2) := by decide +kernel
theorem dL_law__1290 : decode cL_law_ 1290 = .ok (.iconst 1, 1) := by decide +kernel
theorem dL_law__1291 : decode cL_law_ 1291 = .ok (.iadd, 1) := by decide +kernel
theorem dL_law__1292 : decode cL_law_ 1292 = .ok (.iaload, 1) := by decide +kernel
theorem dL_law__1293 : decode cL_law_ 1293 = .ok (.aload_n 0, 1) := by decide +kernel
theorem dL_law__1294 : decode cL_law_ 1294 = .ok (.iload 4, 2) := by decide +kernel
theorem dL_law__1296 : decode cL_law_ 1296 = .ok (.iconst 2, 1) := by decide +kernel
theorem dL_law__1297 : decode cL_law_ 1297 = .ok (.iadd, 1) := by decide +kernel
theorem dL_law__1298 : decode cL_law_ 1298 = .ok (.iaload, 1) := by decide +kernel
theorem dL_law__1299 : decode cL_law_ 1299 = .ok (.aload_n 0, 1) := by decide +kernel
theorem dL_law__1300 : decode cL_law_ 1300 = .ok (.iload 4, 2) := by decide +kernel
theorem dL_law__1302 : decode cL_law_ 1302 = .ok (.iconst 3, 1) := by decide +kernel
theorem dL_law__1303 : decode cL_law_ 1303 = .ok (.iadd, 1) := by decide +kernel
theorem dL_law__1304 : decode cL_law_ 1304 = .ok (.iaload, 1) := by decide +kernel
theorem dL_law__1305 : decode cL_law_ 1305 = .ok (.aload_n 3, 1) := by decide +kernel
theorem dL_law__1306 : decode cL_law_ 1306 = .ok (.invokestatic 190, 3) := by decide +kernel
theorem dL_law__1309 : decode cL_law_ 1309 = .ok (.istore 5, 2) := by decide +kernel
theorem dL_law__1311 : decode cL_law_ 1311 = .ok (.aload_n 2, 1) := by decide +kernel
theorem dL_law__1312 : decode cL_law_ 1312 = .ok (.aload_n 0, 1) := by decide +kernel
theorem dL_law__1313 : decode cL_law_ 1313 = .ok (.iload 4, 2) := by decide +kernel
theorem dL_law__1315 : decode cL_law_ 1315 = .ok (.iconst 1, 1) := by decide +kernel
theorem dL_law__1316 : decode cL_law_ 1316 = .ok (.iadd, 1) := by decide +kernel
theorem dL_law__1317 : decode cL_law_ 1317 = .ok (.iaload, 1) := by decide +kernel
theorem dL_law__1318 : decode cL_law_ 1318 = .ok (.aload_n 0, 1) := by decide +kernel
theorem dL_law__1319 : decode cL_law_ 1319 = .ok (.iload 4, 2) := by decide +kernel
theorem dL_law__1321 : decode cL_law_ 1321 = .ok (.iconst 2, 1) := by decide +kernel
theorem dL_law__1322 : decode cL_law_ 1322 = .ok (.iadd, 1) := by decide +kernel
theorem dL_law__1323 : decode cL_law_ 1323 = .ok (.iaload, 1) := by decide +kernel
theorem dL_law__1324 : decode cL_law_ 1324 = .ok (.aload_n 0, 1) := by decide +kernel
theorem dL_law__1325 : decode cL_law_ 1325 = .ok (.iload 4, 2) := by decide +kernel
theorem dL_law__1327 : decode cL_law_ 1327 = .ok (.iconst 3, 1) := by decide +kernel
theorem dL_law__1328 : decode cL_law_ 1328 = .ok (.iadd, 1) := by decide +kernel
theorem dL_law__1329 : decode cL_law_ 1329 = .ok (.iaload, 1) := by decide +kernel
theorem dL_law__1330 : decode cL_law_ 1330 = .ok (.invokevirtual 193, 3) := by decide +kernel
theorem dL_law__1333 : decode cL_law_ 1333 = .ok (.istore 6, 2) := by decide +kernel
theorem dL_law__1335 : decode cL_law_ 1335 = .ok (.aload_n 2, 1) := by decide +kernel
theorem dL_law__1336 : decode cL_law_ 1336 = .ok (.invokevirtual 139, 3) := by decide +kernel
theorem dL_law__1339 : decode cL_law_ 1339 = .ok (.iload 5, 2) := by decide +kernel
theorem dL_law__1341 : decode cL_law_ 1341 = .ok (.if_icmp .eq 5, 3) := by decide +kernel
theorem dL_law__1344 : decode cL_law_ 1344 = .ok (.iconst 0, 1) := by decide +kernel
theorem dL_law__1345 : decode cL_law_ 1345 = .ok (.ireturn, 1) := by decide +kernel
theorem dL_law__1346 : decode cL_law_ 1346 = .ok (.iload 5, 2) := by decide +kernel
theorem dL_law__1348 : decode cL_law_ 1348 = .ok (.ifCond .ne 15, 3) := by decide +kernel
theorem dL_law__1351 : decode cL_law_ 1351 = .ok (.aload_n 3, 1) := by decide +kernel
theorem dL_law__1352 : decode cL_law_ 1352 = .ok (.iconst 0, 1) := by decide +kernel
theorem dL_law__1353 : decode cL_law_ 1353 = .ok (.laload, 1) := by decide +kernel
theorem dL_law__1354 : decode cL_law_ 1354 = .ok (.iload 6, 2) := by decide +kernel
theorem dL_law__1356 : decode cL_law_ 1356 = .ok (.i2l, 1) := by decide +kernel
theorem dL_law__1357 : decode cL_law_ 1357 = .ok (.lcmp, 1) := by decide +kernel
theorem dL_law__1358 : decode cL_law_ 1358 = .ok (.ifCond .eq 5, 3) := by decide +kernel
theorem dL_law__1361 : decode cL_law_ 1361 = .ok (.iconst 0, 1) := by decide +kernel
theorem dL_law__1362 : decode cL_law_ 1362 = .ok (.ireturn, 1) := by decide +kernel
theorem dL_law__1363 : decode cL_law_ 1363 = .ok (.goto 1159, 3) := by decide +kernel
theorem dL_law__1366 : decode cL_law_ 1366 = .ok (.aload_n 1, 1) := by decide +kernel
theorem dL_law__1367 : decode cL_law_ 1367 = .ok (.aload_n 0, 1) := by decide +kernel
theorem dL_law__1368 : decode cL_law_ 1368 = .ok (.iload 4, 2) := by decide +kernel
theorem dL_law__1370 : decode cL_law_ 1370 = .ok (.iconst 1, 1) := by decide +kernel
theorem dL_law__1371 : decode cL_law_ 1371 = .ok (.iadd, 1) := by decide +kernel
theorem dL_law__1372 : decode cL_law_ 1372 = .ok (.iaload, 1) := by decide +kernel
theorem dL_law__1373 : decode cL_law_ 1373 = .ok (.aload_n 0, 1) := by decide +kernel
theorem dL_law__1374 : decode cL_law_ 1374 = .ok (.iload 4, 2) := by decide +kernel
theorem dL_law__1376 : decode cL_law_ 1376 = .ok (.iconst 2, 1) := by decide +kernel
theorem dL_law__1377 : decode cL_law_ 1377 = .ok (.iadd, 1) := by decide +kernel
theorem dL_law__1378 : decode cL_law_ 1378 = .ok (.iaload, 1) := by decide +kernel
theorem dL_law__1379 : decode cL_law_ 1379 = .ok (.aload_n 3, 1) := by decide +kernel
theorem dL_law__1380 : decode cL_law_ 1380 = .ok (.invokestatic 194, 3) := by decide +kernel
theorem dL_law__1383 : decode cL_law_ 1383 = .ok (.istore 5, 2) := by decide +kernel
theorem dL_law__1385 : decode cL_law_ 1385 = .ok (.aload_n 2, 1) := by decide +kernel
theorem dL_law__1386 : decode cL_law_ 1386 = .ok (.aload_n 0, 1) := by decide +kernel
theorem dL_law__1387 : decode cL_law_ 1387 = .ok (.iload 4, 2) := by decide +kernel
theorem dL_law__1389 : decode cL_law_ 1389 = .ok (.iconst 1, 1) := by decide +kernel
theorem dL_law__1390 : decode cL_law_ 1390 = .ok (.iadd, 1) := by decide +kernel
theorem dL_law__1391 : decode cL_law_ 1391 = .ok (.iaload, 1) := by decide +kernel
theorem dL_law__1392 : decode cL_law_ 1392 = .ok (.aload_n 0, 1) := by decide +kernel
theorem dL_law__1393 : decode cL_law_ 1393 = .ok (.iload 4, 2) := by decide +kernel
theorem dL_law__1395 : decode cL_law_ 1395 = .ok (.iconst 2, 1) := by decide +kernel
theorem dL_law__1396 : decode cL_law_ 1396 = .ok (.iadd, 1) := by decide +kernel
theorem dL_law__1397 : decode cL_law_ 1397 = .ok (.iaload, 1) := by decide +kernel
theorem dL_law__1398 : decode cL_law_ 1398 = .ok (.invokevirtual 196, 3) := by decide +kernel
theorem dL_law__1401 : decode cL_law_ 1401 = .ok (.istore 6, 2) := by decide +kernel
theorem dL_law__1403 : decode cL_law_ 1403 = .ok (.aload_n 2, 1) := by decide +kernel
theorem dL_law__1404 : decode cL_law_ 1404 = .ok (.invokevirtual 139, 3) := by decide +kernel
theorem dL_law__1407 : decode cL_law_ 1407 = .ok (.iload 5, 2) := by decide +kernel
theorem dL_law__1409 : decode cL_law_ 1409 = .ok (.if_icmp .eq 5, 3) := by decide +kernel
theorem dL_law__1412 : decode cL_law_ 1412 = .ok (.iconst 0, 1) := by decide +kernel
theorem dL_law__1413 : decode cL_law_ 1413 = .ok (.ireturn, 1) := by decide +kernel
theorem dL_law__1414 : decode cL_law_ 1414 = .ok (.iload 5, 2) := by decide +kernel
theorem dL_law__1416 : decode cL_law_ 1416 = .ok (.ifCond .ne 15, 3) := by decide +kernel
theorem dL_law__1419 : decode cL_law_ 1419 = .ok (.aload_n 3, 1) := by decide +kernel
theorem dL_law__1420 : decode cL_law_ 1420 = .ok (.iconst 0, 1) := by decide +kernel
theorem dL_law__1421 : decode cL_law_ 1421 = .ok (.laload, 1) := by decide +kernel
theorem dL_law__1422 : decode cL_law_ 1422 = .ok (.iload 6, 2) := by decide +kernel
theorem dL_law__1424 : decode cL_law_ 1424 = .ok (.i2l, 1) := by decide +kernel
theorem dL_law__1425 : decode cL_law_ 1425 = .ok (.lcmp, 1) := by decide +kernel
theorem dL_law__1426 : decode cL_law_ 1426 = .ok (.ifCond .eq 5, 3) := by decide +kernel
theorem dL_law__1429 : decode cL_law_ 1429 = .ok (.iconst 0, 1) := by decide +kernel
theorem dL_law__1430 : decode cL_law_ 1430 = .ok (.ireturn, 1) := by decide +kernel
theorem dL_law__1431 : decode cL_law_ 1431 = .ok (.goto 1091, 3) := by decide +kernel
theorem dL_law__1434 : decode cL_law_ 1434 = .ok (.aload_n 1, 1) := by decide +kernel
theorem dL_law__1435 : decode cL_law_ 1435 = .ok (.aload_n 0, 1) := by decide +kernel
theorem dL_law__1436 : decode cL_law_ 1436 = .ok (.iload 4, 2) := by decide +kernel
theorem dL_law__1438 : decode cL_law_ 1438 = .ok (.iconst 1, 1) := by decide +kernel
theorem dL_law__1439 : decode cL_law_ 1439 = .ok (.iadd, 1) := by decide +kernel
theorem dL_law__1440 : decode cL_law_ 1440 = .ok (.iaload, 1) := by decide +kernel
theorem dL_law__1441 : decode cL_law_ 1441 = .ok (.aload_n 3, 1) := by decide +kernel
theorem dL_law__1442 : decode cL_law_ 1442 = .ok (.invokestatic 197, 3) := by decide +kernel
theorem dL_law__1445 : decode cL_law_ 1445 = .ok (.istore 5, 2) := by decide +kernel
theorem dL_law__1447 : decode cL_law_ 1447 = .ok (.aload_n 2, 1) := by decide +kernel
theorem dL_law__1448 : decode cL_law_ 1448 = .ok (.aload_n 0, 1) := by decide +kernel
theorem dL_law__1449 : decode cL_law_ 1449 = .ok (.iload 4, 2) := by decide +kernel
theorem dL_law__1451 : decode cL_law_ 1451 = .ok (.iconst 1, 1) := by decide +kernel
theorem dL_law__1452 : decode cL_law_ 1452 = .ok (.iadd, 1) := by decide +kernel
theorem dL_law__1453 : decode cL_law_ 1453 = .ok (.iaload, 1) := by decide +kernel
theorem dL_law__1454 : decode cL_law_ 1454 = .ok (.invokevirtual 199, 3) := by decide +kernel
theorem dL_law__1457 : decode cL_law_ 1457 = .ok (.istore 6, 2) := by decide +kernel
theorem dL_law__1459 : decode cL_law_ 1459 = .ok (.aload_n 2, 1) := by decide +kernel
theorem dL_law__1460 : decode cL_law_ 1460 = .ok (.invokevirtual 139, 3) := by decide +kernel
theorem dL_law__1463 : decode cL_law_ 1463 = .ok (.iload 5, 2) := by decide +kernel
theorem dL_law__1465 : decode cL_law_ 1465 = .ok (.if_icmp .eq 5, 3) := by decide +kernel
theorem dL_law__1468 : decode cL_law_ 1468 = .ok (.iconst 0, 1) := by decide +kernel
theorem dL_law__1469 : decode cL_law_ 1469 = .ok (.ireturn, 1) := by decide +kernel
theorem dL_law__1470 : decode cL_law_ 1470 = .ok (.iload 5, 2) := by decide +kernel
theorem dL_law__1472 : decode cL_law_ 1472 = .ok (.ifCond .ne 15, 3) := by decide +kernel
theorem dL_law__1475 : decode cL_law_ 1475 = .ok (.aload_n 3, 1) := by decide +kernel
theorem dL_law__1476 : decode cL_law_ 1476 = .ok (.iconst 0, 1) := by decide +kernel
theorem dL_law__1477 : decode cL_law_ 1477 = .ok (.laload, 1) := by decide +kernel
theorem dL_law__1478 : decode cL_law_ 1478 = .ok (.iload 6, 2) := by decide +kernel
theorem dL_law__1480 : decode cL_law_ 1480 = .ok (.i2l, 1) := by decide +kernel
theorem dL_law__1481 : decode cL_law_ 1481 = .ok (.lcmp, 1) := by decide +kernel
theorem dL_law__1482 : decode cL_law_ 1482 = .ok (.ifCond .eq 5, 3) := by decide +kernel
theorem dL_law__1485 : decode cL_law_ 1485 = .ok (.iconst 0, 1) := by decide +kernel
theorem dL_law__1486 : decode cL_law_ 1486 = .ok (.ireturn, 1) := by decide +kernel
theorem dL_law__1487 : decode cL_law_ 1487 = .ok (.goto 1035, 3) := by decide +kernel
theorem dL_law__1490 : decode cL_law_ 1490 = .ok (.aload_n 1, 1) := by decide +kernel
theorem dL_law__1491 : decode cL_law_ 1491 = .ok (.invokevirtual 200, 3) := by decide +kernel
theorem dL_law__1494 : decode cL_law_ 1494 = .ok (.aload_n 2, 1) := by decide +kernel
theorem dL_law__1495 : decode cL_law_ 1495 = .ok (.invokevirtual 203, 3) := by decide +kernel
theorem dL_law__1498 : decode cL_law_ 1498 = .ok (.if_icmp .eq 1024, 3) := by decide +kernel
theorem dL_law__1501 : decode cL_law_ 1501 = .ok (.iconst 0, 1) := by decide +kernel
theorem dL_law__1502 : decode cL_law_ 1502 = .ok (.ireturn, 1) := by decide +kernel
theorem dL_law__1503 : decode cL_law_ 1503 = .ok (.aload_n 1, 1) := by decide +kernel
theorem dL_law__1504 : decode cL_law_ 1504 = .ok (.aload_n 0, 1) := by decide +kernel
theorem dL_law__1505 : decode cL_law_ 1505 = .ok (.iload 4, 2) := by decide +kernel
theorem dL_law__1507 : decode cL_law_ 1507 = .ok (.iconst 1, 1) := by decide +kernel
theorem dL_law__1508 : decode cL_law_ 1508 = .ok (.iadd, 1) := by decide +kernel
theorem dL_law__1509 : decode cL_law_ 1509 = .ok (.iaload, 1) := by decide +kernel
theorem dL_law__1510 : decode cL_law_ 1510 = .ok (.aload_n 3, 1) := by decide +kernel
theorem dL_law__1511 : decode cL_law_ 1511 = .ok (.invokestatic 204, 3) := by decide +kernel
theorem dL_law__1514 : decode cL_law_ 1514 = .ok (.istore 5, 2) := by decide +kernel
theorem dL_law__1516 : decode cL_law_ 1516 = .ok (.aload_n 2, 1) := by decide +kernel
theorem dL_law__1517 : decode cL_law_ 1517 = .ok (.aload_n 0, 1) := by decide +kernel
theorem dL_law__1518 : decode cL_law_ 1518 = .ok (.iload 4, 2) := by decide +kernel
theorem dL_law__1520 : decode cL_law_ 1520 = .ok (.iconst 1, 1) := by decide +kernel
theorem dL_law__1521 : decode cL_law_ 1521 = .ok (.iadd, 1) := by decide +kernel
theorem dL_law__1522 : decode cL_law_ 1522 = .ok (.iaload, 1) := by decide +kernel
theorem dL_law__1523 : decode cL_law_ 1523 = .ok (.invokevirtual 206, 3) := by decide +kernel
theorem dL_law__1526 : decode cL_law_ 1526 = .ok (.istore 6, 2) := by decide +kernel
theorem dL_law__1528 : decode cL_law_ 1528 = .ok (.aload_n 2, 1) := by decide +kernel
theorem dL_law__1529 : decode cL_law_ 1529 = .ok (.invokevirtual 139, 3) := by decide +kernel
theorem dL_law__1532 : decode cL_law_ 1532 = .ok (.iload 5, 2) := by decide +kernel
theorem dL_law__1534 : decode cL_law_ 1534 = .ok (.if_icmp .eq 5, 3) := by decide +kernel
theorem dL_law__1537 : decode cL_law_ 1537 = .ok (.iconst 0, 1) := by decide +kernel
theorem dL_law__1538 : decode cL_law_ 1538 = .ok (.ireturn, 1) := by decide +kernel
theorem dL_law__1539 : decode cL_law_ 1539 = .ok (.iload 5, 2) := by decide +kernel
theorem dL_law__1541 : decode cL_law_ 1541 = .ok (.ifCond .ne 15, 3) := by decide +kernel
theorem dL_law__1544 : decode cL_law_ 1544 = .ok (.aload_n 3, 1) := by decide +kernel
theorem dL_law__1545 : decode cL_law_ 1545 = .ok (.iconst 0, 1) := by decide +kernel
theorem dL_law__1546 : decode cL_law_ 1546 = .ok (.laload, 1) := by decide +kernel
theorem dL_law__1547 : decode cL_law_ 1547 = .ok (.iload 6, 2) := by decide +kernel
theorem dL_law__1549 : decode cL_law_ 1549 = .ok (.i2l, 1) := by decide +kernel
theorem dL_law__1550 : decode cL_law_ 1550 = .ok (.lcmp, 1) := by decide +kernel
theorem dL_law__1551 : decode cL_law_ 1551 = .ok (.ifCond .eq 5, 3) := by decide +kernel
theorem dL_law__1554 : decode cL_law_ 1554 = .ok (.iconst 0, 1) := by decide +kernel
theorem dL_law__1555 : decode cL_law_ 1555 = .ok (.ireturn, 1) := by decide +kernel
theorem dL_law__1556 : decode cL_law_ 1556 = .ok (.goto 966, 3) := by decide +kernel
theorem dL_law__1559 : decode cL_law_ 1559 = .ok (.aload_n 1, 1) := by decide +kernel
theorem dL_law__1560 : decode cL_law_ 1560 = .ok (.aload_n 0, 1) := by decide +kernel
theorem dL_law__1561 : decode cL_law_ 1561 = .ok (.iload 4, 2) := by decide +kernel
theorem dL_law__1563 : decode cL_law_ 1563 = .ok (.iconst 1, 1) := by decide +kernel
theorem dL_law__1564 : decode cL_law_ 1564 = .ok (.iadd, 1) := by decide +kernel
theorem dL_law__1565 : decode cL_law_ 1565 = .ok (.iaload, 1) := by decide +kernel
theorem dL_law__1566 : decode cL_law_ 1566 = .ok (.aload_n 3, 1) := by decide +kernel
theorem dL_law__1567 : decode cL_law_ 1567 = .ok (.invokestatic 207, 3) := by decide +kernel
theorem dL_law__1570 : decode cL_law_ 1570 = .ok (.istore 5, 2) := by decide +kernel
theorem dL_law__1572 : decode cL_law_ 1572 = .ok (.aload_n 2, 1) := by decide +kernel
theorem dL_law__1573 : decode cL_law_ 1573 = .ok (.aload_n 0, 1) := by decide +kernel
theorem dL_law__1574 : decode cL_law_ 1574 = .ok (.iload 4, 2) := by decide +kernel
theorem dL_law__1576 : decode cL_law_ 1576 = .ok (.iconst 1, 1) := by decide +kernel
theorem dL_law__1577 : decode cL_law_ 1577 = .ok (.iadd, 1) := by decide +kernel
theorem dL_law__1578 : decode cL_law_ 1578 = .ok (.iaload, 1) := by decide +kernel
theorem dL_law__1579 : decode cL_law_ 1579 = .ok (.invokevirtual 209, 3) := by decide +kernel
theorem dL_law__1582 : decode cL_law_ 1582 = .ok (.istore 6, 2) := by decide +kernel
theorem dL_law__1584 : decode cL_law_ 1584 = .ok (.aload_n 2, 1) := by decide +kernel
theorem dL_law__1585 : decode cL_law_ 1585 = .ok (.invokevirtual 139, 3) := by decide +kernel
theorem dL_law__1588 : decode cL_law_ 1588 = .ok (.iload 5, 2) := by decide +kernel
theorem dL_law__1590 : decode cL_law_ 1590 = .ok (.if_icmp .eq 5, 3) := by decide +kernel
theorem dL_law__1593 : decode cL_law_ 1593 = .ok (.iconst 0, 1) := by decide +kernel
theorem dL_law__1594 : decode cL_law_ 1594 = .ok (.ireturn, 1) := by decide +kernel
theorem dL_law__1595 : decode cL_law_ 1595 = .ok (.iload 5, 2) := by decide +kernel
theorem dL_law__1597 : decode cL_law_ 1597 = .ok (.ifCond .ne 15, 3) := by decide +kernel
theorem dL_law__1600 : decode cL_law_ 1600 = .ok (.aload_n 3, 1) := by decide +kernel
theorem dL_law__1601 : decode cL_law_ 1601 = .ok (.iconst 0, 1) := by decide +kernel
theorem dL_law__1602 : decode cL_law_ 1602 = .ok (.laload, 1) := by decide +kernel
theorem dL_law__1603 : decode cL_law_ 1603 = .ok (.iload 6, 2) := by decide +kernel
theorem dL_law__1605 : decode cL_law_ 1605 = .ok (.i2l, 1) := by decide +kernel
theorem dL_law__1606 : decode cL_law_ 1606 = .ok (.lcmp, 1) := by decide +kernel
theorem dL_law__1607 : decode cL_law_ 1607 = .ok (.ifCond .eq 5, 3) := by decide +kernel
theorem dL_law__1610 : decode cL_law_ 1610 = .ok (.iconst 0, 1) := by decide +kernel
theorem dL_law__1611 : decode cL_law_ 1611 = .ok (.ireturn, 1) := by decide +kernel
theorem dL_law__1612 : decode cL_law_ 1612 = .ok (.goto 910, 3) := by decide +kernel
theorem dL_law__1615 : decode cL_law_ 1615 = .ok (.aload_n 1, 1) := by decide +kernel
theorem dL_law__1616 : decode cL_law_ 1616 = .ok (.aload_n 0, 1) := by decide +kernel
theorem dL_law__1617 : decode cL_law_ 1617 = .ok (.iload 4, 2) := by decide +kernel
theorem dL_law__1619 : decode cL_law_ 1619 = .ok (.iconst 1, 1) := by decide +kernel
theorem dL_law__1620 : decode cL_law_ 1620 = .ok (.iadd, 1) := by decide +kernel
theorem dL_law__1621 : decode cL_law_ 1621 = .ok (.iaload, 1) := by decide +kernel
theorem dL_law__1622 : decode cL_law_ 1622 = .ok (.aload_n 3, 1) := by decide +kernel
theorem dL_law__1623 : decode cL_law_ 1623 = .ok (.invokestatic 210, 3) := by decide +kernel
theorem dL_law__1626 : decode cL_law_ 1626 = .ok (.istore 5, 2) := by decide +kernel
theorem dL_law__1628 : decode cL_law_ 1628 = .ok (.aload_n 2, 1) := by decide +kernel
theorem dL_law__1629 : decode cL_law_ 1629 = .ok (.aload_n 0, 1) := by decide +kernel
theorem dL_law__1630 : decode cL_law_ 1630 = .ok (.iload 4, 2) := by decide +kernel
theorem dL_law__1632 : decode cL_law_ 1632 = .ok (.iconst 1, 1) := by decide +kernel
theorem dL_law__1633 : decode cL_law_ 1633 = .ok (.iadd, 1) := by decide +kernel
theorem dL_law__1634 : decode cL_law_ 1634 = .ok (.iaload, 1) := by decide +kernel
theorem dL_law__1635 : decode cL_law_ 1635 = .ok (.invokevirtual 212, 3) := by decide +kernel
theorem dL_law__1638 : decode cL_law_ 1638 = .ok (.istore 6, 2) := by decide +kernel
theorem dL_law__1640 : decode cL_law_ 1640 = .ok (.aload_n 2, 1) := by decide +kernel
theorem dL_law__1641 : decode cL_law_ 1641 = .ok (.invokevirtual 139, 3) := by decide +kernel
theorem dL_law__1644 : decode cL_law_ 1644 = .ok (.iload 5, 2) := by decide +kernel
theorem dL_law__1646 : decode cL_law_ 1646 = .ok (.if_icmp .eq 5, 3) := by decide +kernel
theorem dL_law__1649 : decode cL_law_ 1649 = .ok (.iconst 0, 1) := by decide +kernel
theorem dL_law__1650 : decode cL_law_ 1650 = .ok (.ireturn, 1) := by decide +kernel
theorem dL_law__1651 : decode cL_law_ 1651 = .ok (.iload 5, 2) := by decide +kernel
theorem dL_law__1653 : decode cL_law_ 1653 = .ok (.ifCond .ne 15, 3) := by decide +kernel
theorem dL_law__1656 : decode cL_law_ 1656 = .ok (.aload_n 3, 1) := by decide +kernel
theorem dL_law__1657 : decode cL_law_ 1657 = .ok (.iconst 0, 1) := by decide +kernel
theorem dL_law__1658 : decode cL_law_ 1658 = .ok (.laload, 1) := by decide +kernel
theorem dL_law__1659 : decode cL_law_ 1659 = .ok (.iload 6, 2) := by decide +kernel
theorem dL_law__1661 : decode cL_law_ 1661 = .ok (.i2l, 1) := by decide +kernel
theorem dL_law__1662 : decode cL_law_ 1662 = .ok (.lcmp, 1) := by decide +kernel
theorem dL_law__1663 : decode cL_law_ 1663 = .ok (.ifCond .eq 5, 3) := by decide +kernel
theorem dL_law__1666 : decode cL_law_ 1666 = .ok (.iconst 0, 1) := by decide +kernel
theorem dL_law__1667 : decode cL_law_ 1667 = .ok (.ireturn, 1) := by decide +kernel
theorem dL_law__1668 : decode cL_law_ 1668 = .ok (.goto 854, 3) := by decide +kernel
theorem dL_law__1671 : decode cL_law_ 1671 = .ok (.aload_n 1, 1) := by decide +kernel
theorem dL_law__1672 : decode cL_law_ 1672 = .ok (.invokevirtual 213, 3) := by decide +kernel
theorem dL_law__1675 : decode cL_law_ 1675 = .ok (.aload_n 2, 1) := by decide +kernel
theorem dL_law__1676 : decode cL_law_ 1676 = .ok (.invokevirtual 216, 3) := by decide +kernel
theorem dL_law__1679 : decode cL_law_ 1679 = .ok (.if_icmp .eq 843, 3) := by decide +kernel
theorem dL_law__1682 : decode cL_law_ 1682 = .ok (.iconst 0, 1) := by decide +kernel
theorem dL_law__1683 : decode cL_law_ 1683 = .ok (.ireturn, 1) := by decide +kernel
theorem dL_law__1684 : decode cL_law_ 1684 = .ok (.aload_n 1, 1) := by decide +kernel
theorem dL_law__1685 : decode cL_law_ 1685 = .ok (.aload_n 0, 1) := by decide +kernel
theorem dL_law__1686 : decode cL_law_ 1686 = .ok (.iload 4, 2) := by decide +kernel
theorem dL_law__1688 : decode cL_law_ 1688 = .ok (.iconst 1, 1) := by decide +kernel
theorem dL_law__1689 : decode cL_law_ 1689 = .ok (.iadd, 1) := by decide +kernel
theorem dL_law__1690 : decode cL_law_ 1690 = .ok (.iaload, 1) := by decide +kernel
theorem dL_law__1691 : decode cL_law_ 1691 = .ok (.aload_n 3, 1) := by decide +kernel
theorem dL_law__1692 : decode cL_law_ 1692 = .ok (.invokestatic 217, 3) := by decide +kernel
theorem dL_law__1695 : decode cL_law_ 1695 = .ok (.istore 5, 2) := by decide +kernel
theorem dL_law__1697 : decode cL_law_ 1697 = .ok (.aload_n 2, 1) := by decide +kernel
theorem dL_law__1698 : decode cL_law_ 1698 = .ok (.aload_n 0, 1) := by decide +kernel
theorem dL_law__1699 : decode cL_law_ 1699 = .ok (.iload 4, 2) := by decide +kernel
theorem dL_law__1701 : decode cL_law_ 1701 = .ok (.iconst 1, 1) := by decide +kernel
theorem dL_law__1702 : decode cL_law_ 1702 = .ok (.iadd, 1) := by decide +kernel
theorem dL_law__1703 : decode cL_law_ 1703 = .ok (.iaload, 1) := by decide +kernel
theorem dL_law__1704 : decode cL_law_ 1704 = .ok (.invokevirtual 219, 3) := by decide +kernel
theorem dL_law__1707 : decode cL_law_ 1707 = .ok (.istore 6, 2) := by decide +kernel
theorem dL_law__1709 : decode cL_law_ 1709 = .ok (.aload_n 2, 1) := by decide +kernel
theorem dL_law__1710 : decode cL_law_ 1710 = .ok (.invokevirtual 139, 3) := by decide +kernel
theorem dL_law__1713 : decode cL_law_ 1713 = .ok (.iload 5, 2) := by decide +kernel
theorem dL_law__1715 : decode cL_law_ 1715 = .ok (.if_icmp .eq 5, 3) := by decide +kernel
theorem dL_law__1718 : decode cL_law_ 1718 = .ok (.iconst 0, 1) := by decide +kernel
theorem dL_law__1719 : decode cL_law_ 1719 = .ok (.ireturn, 1) := by decide +kernel
theorem dL_law__1720 : decode cL_law_ 1720 = .ok (.iload 5, 2) := by decide +kernel
theorem dL_law__1722 : decode cL_law_ 1722 = .ok (.ifCond .ne 15, 3) := by decide +kernel
theorem dL_law__1725 : decode cL_law_ 1725 = .ok (.aload_n 3, 1) := by decide +kernel
theorem dL_law__1726 : decode cL_law_ 1726 = .ok (.iconst 0, 1) := by decide +kernel
theorem dL_law__1727 : decode cL_law_ 1727 = .ok (.laload, 1) := by decide +kernel
theorem dL_law__1728 : decode cL_law_ 1728 = .ok (.iload 6, 2) := by decide +kernel
theorem dL_law__1730 : decode cL_law_ 1730 = .ok (.i2l, 1) := by decide +kernel
theorem dL_law__1731 : decode cL_law_ 1731 = .ok (.lcmp, 1) := by decide +kernel
theorem dL_law__1732 : decode cL_law_ 1732 = .ok (.ifCond .eq 5, 3) := by decide +kernel
theorem dL_law__1735 : decode cL_law_ 1735 = .ok (.iconst 0, 1) := by decide +kernel
theorem dL_law__1736 : decode cL_law_ 1736 = .ok (.ireturn, 1) := by decide +kernel
theorem dL_law__1737 : decode cL_law_ 1737 = .ok (.goto 785, 3) := by decide +kernel
theorem dL_law__1740 : decode cL_law_ 1740 = .ok (.aload_n 1, 1) := by decide +kernel
theorem dL_law__1741 : decode cL_law_ 1741 = .ok (.aload_n 0, 1) := by decide +kernel
theorem dL_law__1742 : decode cL_law_ 1742 = .ok (.iload 4, 2) := by decide +kernel
theorem dL_law__1744 : decode cL_law_ 1744 = .ok (.iconst 1, 1) := by decide +kernel
theorem dL_law__1745 : decode cL_law_ 1745 = .ok (.iadd, 1) := by decide +kernel
theorem dL_law__1746 : decode cL_law_ 1746 = .ok (.iaload, 1) := by decide +kernel
theorem dL_law__1747 : decode cL_law_ 1747 = .ok (.aload_n 0, 1) := by decide +kernel
theorem dL_law__1748 : decode cL_law_ 1748 = .ok (.iload 4, 2) := by decide +kernel
theorem dL_law__1750 : decode cL_law_ 1750 = .ok (.iconst 2, 1) := by decide +kernel
theorem dL_law__1751 : decode cL_law_ 1751 = .ok (.iadd, 1) := by decide +kernel
theorem dL_law__1752 : decode cL_law_ 1752 = .ok (.iaload, 1) := by decide +kernel
theorem dL_law__1753 : decode cL_law_ 1753 = .ok (.aload_n 0, 1) := by decide +kernel
theorem dL_law__1754 : decode cL_law_ 1754 = .ok (.iload 4, 2) := by decide +kernel
theorem dL_law__1756 : decode cL_law_ 1756 = .ok (.iconst 3, 1) := by decide +kernel
theorem dL_law__1757 : decode cL_law_ 1757 = .ok (.iadd, 1) := by decide +kernel
theorem dL_law__1758 : decode cL_law_ 1758 = .ok (.iaload, 1) := by decide +kernel
theorem dL_law__1759 : decode cL_law_ 1759 = .ok (.aload_n 3, 1) := by decide +kernel
theorem dL_law__1760 : decode cL_law_ 1760 = .ok (.invokestatic 220, 3) := by decide +kernel
theorem dL_law__1763 : decode cL_law_ 1763 = .ok (.istore 5, 2) := by decide +kernel
theorem dL_law__1765 : decode cL_law_ 1765 = .ok (.aload_n 2, 1) := by decide +kernel
theorem dL_law__1766 : decode cL_law_ 1766 = .ok (.aload_n 0, 1) := by decide +kernel
theorem dL_law__1767 : decode cL_law_ 1767 = .ok (.iload 4, 2) := by decide +kernel
theorem dL_law__1769 : decode cL_law_ 1769 = .ok (.iconst 1, 1) := by decide +kernel
theorem dL_law__1770 : decode cL_law_ 1770 = .ok (.iadd, 1) := by decide +kernel
theorem dL_law__1771 : decode cL_law_ 1771 = .ok (.iaload, 1) := by decide +kernel
theorem dL_law__1772 : decode cL_law_ 1772 = .ok (.aload_n 0, 1) := by decide +kernel
theorem dL_law__1773 : decode cL_law_ 1773 = .ok (.iload 4, 2) := by decide +kernel
theorem dL_law__1775 : decode cL_law_ 1775 = .ok (.iconst 2, 1) := by decide +kernel
theorem dL_law__1776 : decode cL_law_ 1776 = .ok (.iadd, 1) := by decide +kernel
theorem dL_law__1777 : decode cL_law_ 1777 = .ok (.iaload, 1) := by decide +kernel
theorem dL_law__1778 : decode cL_law_ 1778 = .ok (.aload_n 0, 1) := by decide +kernel
theorem dL_law__1779 : decode cL_law_ 1779 = .ok (.iload 4, 2) := by decide +kernel
theorem dL_law__1781 : decode cL_law_ 1781 = .ok (.iconst 3, 1) := by decide +kernel
theorem dL_law__1782 : decode cL_law_ 1782 = .ok (.iadd, 1) := by decide +kernel
theorem dL_law__1783 : decode cL_law_ 1783 = .ok (.iaload, 1) := by decide +kernel
theorem dL_law__1784 : decode cL_law_ 1784 = .ok (.invokevirtual 222, 3) := by decide +kernel
theorem dL_law__1787 : decode cL_law_ 1787 = .ok (.istore 6, 2) := by decide +kernel
theorem dL_law__1789 : decode cL_law_ 1789 = .ok (.aload_n 2, 1) := by decide +kernel
theorem dL_law__1790 : decode cL_law_ 1790 = .ok (.invokevirtual 139, 3) := by decide +kernel
theorem dL_law__1793 : decode cL_law_ 1793 = .ok (.iload 5, 2) := by decide +kernel
theorem dL_law__1795 : decode cL_law_ 1795 = .ok (.if_icmp .eq 5, 3) := by decide +kernel
theorem dL_law__1798 : decode cL_law_ 1798 = .ok (.iconst 0, 1) := by decide +kernel
theorem dL_law__1799 : decode cL_law_ 1799 = .ok (.ireturn, 1) := by decide +kernel
theorem dL_law__1800 : decode cL_law_ 1800 = .ok (.iload 5, 2) := by decide +kernel
theorem dL_law__1802 : decode cL_law_ 1802 = .ok (.ifCond .ne 15, 3) := by decide +kernel
theorem dL_law__1805 : decode cL_law_ 1805 = .ok (.aload_n 3, 1) := by decide +kernel
theorem dL_law__1806 : decode cL_law_ 1806 = .ok (.iconst 0, 1) := by decide +kernel
theorem dL_law__1807 : decode cL_law_ 1807 = .ok (.laload, 1) := by decide +kernel
theorem dL_law__1808 : decode cL_law_ 1808 = .ok (.iload 6, 2) := by decide +kernel
theorem dL_law__1810 : decode cL_law_ 1810 = .ok (.i2l, 1) := by decide +kernel
theorem dL_law__1811 : decode cL_law_ 1811 = .ok (.lcmp, 1) := by decide +kernel
theorem dL_law__1812 : decode cL_law_ 1812 = .ok (.ifCond .eq 5, 3) := by decide +kernel
theorem dL_law__1815 : decode cL_law_ 1815 = .ok (.iconst 0, 1) := by decide +kernel
theorem dL_law__1816 : decode cL_law_ 1816 = .ok (.ireturn, 1) := by decide +kernel
theorem dL_law__1817 : decode cL_law_ 1817 = .ok (.goto 705, 3) := by decide +kernel
theorem dL_law__1820 : decode cL_law_ 1820 = .ok (.aload_n 1, 1) := by decide +kernel
theorem dL_law__1821 : decode cL_law_ 1821 = .ok (.aload_n 0, 1) := by decide +kernel
theorem dL_law__1822 : decode cL_law_ 1822 = .ok (.iload 4, 2) := by decide +kernel
theorem dL_law__1824 : decode cL_law_ 1824 = .ok (.iconst 1, 1) := by decide +kernel
theorem dL_law__1825 : decode cL_law_ 1825 = .ok (.iadd, 1) := by decide +kernel
theorem dL_law__1826 : decode cL_law_ 1826 = .ok (.iaload, 1) := by decide +kernel
theorem dL_law__1827 : decode cL_law_ 1827 = .ok (.aload_n 3, 1) := by decide +kernel
theorem dL_law__1828 : decode cL_law_ 1828 = .ok (.invokestatic 223, 3) := by decide +kernel
theorem dL_law__1831 : decode cL_law_ 1831 = .ok (.istore 5, 2) := by decide +kernel
theorem dL_law__1833 : decode cL_law_ 1833 = .ok (.aload_n 2, 1) := by decide +kernel
theorem dL_law__1834 : decode cL_law_ 1834 = .ok (.aload_n 0, 1) := by decide +kernel
theorem dL_law__1835 : decode cL_law_ 1835 = .ok (.iload 4, 2) := by decide +kernel
theorem dL_law__1837 : decode cL_law_ 1837 = .ok (.iconst 1, 1) := by decide +kernel
theorem dL_law__1838 : decode cL_law_ 1838 = .ok (.iadd, 1) := by decide +kernel
theorem dL_law__1839 : decode cL_law_ 1839 = .ok (.iaload, 1) := by decide +kernel
theorem dL_law__1840 : decode cL_law_ 1840 = .ok (.invokevirtual 225, 3) := by decide +kernel
theorem dL_law__1843 : decode cL_law_ 1843 = .ok (.istore 6, 2) := by decide +kernel
theorem dL_law__1845 : decode cL_law_ 1845 = .ok (.aload_n 2, 1) := by decide +kernel
theorem dL_law__1846 : decode cL_law_ 1846 = .ok (.invokevirtual 139, 3) := by decide +kernel
theorem dL_law__1849 : decode cL_law_ 1849 = .ok (.iload 5, 2) := by decide +kernel
theorem dL_law__1851 : decode cL_law_ 1851 = .ok (.if_icmp .eq 5, 3) := by decide +kernel
theorem dL_law__1854 : decode cL_law_ 1854 = .ok (.iconst 0, 1) := by decide +kernel
theorem dL_law__1855 : decode cL_law_ 1855 = .ok (.ireturn, 1) := by decide +kernel
theorem dL_law__1856 : decode cL_law_ 1856 = .ok (.iload 5, 2) := by decide +kernel
theorem dL_law__1858 : decode cL_law_ 1858 = .ok (.ifCond .ne 15, 3) := by decide +kernel
theorem dL_law__1861 : decode cL_law_ 1861 = .ok (.aload_n 3, 1) := by decide +kernel
theorem dL_law__1862 : decode cL_law_ 1862 = .ok (.iconst 0, 1) := by decide +kernel
theorem dL_law__1863 : decode cL_law_ 1863 = .ok (.laload, 1) := by decide +kernel
theorem dL_law__1864 : decode cL_law_ 1864 = .ok (.iload 6, 2) := by decide +kernel
theorem dL_law__1866 : decode cL_law_ 1866 = .ok (.i2l, 1) := by decide +kernel
theorem dL_law__1867 : decode cL_law_ 1867 = .ok (.lcmp, 1) := by decide +kernel
theorem dL_law__1868 : decode cL_law_ 1868 = .ok (.ifCond .eq 5, 3) := by decide +kernel
theorem dL_law__1871 : decode cL_law_ 1871 = .ok (.iconst 0, 1) := by decide +kernel
theorem dL_law__1872 : decode cL_law_ 1872 = .ok (.ireturn, 1) := by decide +kernel
theorem dL_law__1873 : decode cL_law_ 1873 = .ok (.goto 649, 3) := by decide +kernel
theorem dL_law__1876 : decode cL_law_ 1876 = .ok (.aload_n 1, 1) := by decide +kernel
theorem dL_law__1877 : decode cL_law_ 1877 = .ok (.aload_n 0, 1) := by decide +kernel
theorem dL_law__1878 : decode cL_law_ 1878 = .ok (.iload 4, 2) := by decide +kernel
theorem dL_law__1880 : decode cL_law_ 1880 = .ok (.iconst 1, 1) := by decide +kernel
theorem dL_law__1881 : decode cL_law_ 1881 = .ok (.iadd, 1) := by decide +kernel
theorem dL_law__1882 : decode cL_law_ 1882 = .ok (.iaload, 1) := by decide +kernel
theorem dL_law__1883 : decode cL_law_ 1883 = .ok (.ifCond .eq 7, 3) := by decide +kernel
theorem dL_law__1886 : decode cL_law_ 1886 = .ok (.iconst 1, 1) := by decide +kernel
theorem dL_law__1887 : decode cL_law_ 1887 = .ok (.goto 4, 3) := by decide +kernel
theorem dL_law__1890 : decode cL_law_ 1890 = .ok (.iconst 0, 1) := by decide +kernel
theorem dL_law__1891 : decode cL_law_ 1891 = .ok (.invokevirtual 226, 3) := by decide +kernel
theorem dL_law__1894 : decode cL_law_ 1894 = .ok (.aload_n 2, 1) := by decide +kernel
theorem dL_law__1895 : decode cL_law_ 1895 = .ok (.aload_n 0, 1) := by decide +kernel
theorem dL_law__1896 : decode cL_law_ 1896 = .ok (.iload 4, 2) := by decide +kernel
theorem dL_law__1898 : decode cL_law_ 1898 = .ok (.iconst 1, 1) := by decide +kernel
theorem dL_law__1899 : decode cL_law_ 1899 = .ok (.iadd, 1) := by decide +kernel
theorem dL_law__1900 : decode cL_law_ 1900 = .ok (.iaload, 1) := by decide +kernel
theorem dL_law__1901 : decode cL_law_ 1901 = .ok (.ifCond .eq 7, 3) := by decide +kernel
theorem dL_law__1904 : decode cL_law_ 1904 = .ok (.iconst 1, 1) := by decide +kernel
theorem dL_law__1905 : decode cL_law_ 1905 = .ok (.goto 4, 3) := by decide +kernel
theorem dL_law__1908 : decode cL_law_ 1908 = .ok (.iconst 0, 1) := by decide +kernel
theorem dL_law__1909 : decode cL_law_ 1909 = .ok (.invokevirtual 229, 3) := by decide +kernel
theorem dL_law__1912 : decode cL_law_ 1912 = .ok (.if_icmp .eq 610, 3) := by decide +kernel
theorem dL_law__1915 : decode cL_law_ 1915 = .ok (.iconst 0, 1) := by decide +kernel
theorem dL_law__1916 : decode cL_law_ 1916 = .ok (.ireturn, 1) := by decide +kernel
theorem dL_law__1917 : decode cL_law_ 1917 = .ok (.aload_n 1, 1) := by decide +kernel
theorem dL_law__1918 : decode cL_law_ 1918 = .ok (.aload_n 0, 1) := by decide +kernel
theorem dL_law__1919 : decode cL_law_ 1919 = .ok (.iload 4, 2) := by decide +kernel
theorem dL_law__1921 : decode cL_law_ 1921 = .ok (.iconst 1, 1) := by decide +kernel
theorem dL_law__1922 : decode cL_law_ 1922 = .ok (.iadd, 1) := by decide +kernel
theorem dL_law__1923 : decode cL_law_ 1923 = .ok (.iaload, 1) := by decide +kernel
theorem dL_law__1924 : decode cL_law_ 1924 = .ok (.aload_n 3, 1) := by decide +kernel
theorem dL_law__1925 : decode cL_law_ 1925 = .ok (.invokestatic 230, 3) := by decide +kernel
theorem dL_law__1928 : decode cL_law_ 1928 = .ok (.istore 5, 2) := by decide +kernel
theorem dL_law__1930 : decode cL_law_ 1930 = .ok (.aload_n 2, 1) := by decide +kernel
theorem dL_law__1931 : decode cL_law_ 1931 = .ok (.aload_n 0, 1) := by decide +kernel
theorem dL_law__1932 : decode cL_law_ 1932 = .ok (.iload 4, 2) := by decide +kernel
theorem dL_law__1934 : decode cL_law_ 1934 = .ok (.iconst 1, 1) := by decide +kernel
theorem dL_law__1935 : decode cL_law_ 1935 = .ok (.iadd, 1) := by decide +kernel
theorem dL_law__1936 : decode cL_law_ 1936 = .ok (.iaload, 1) := by decide +kernel
theorem dL_law__1937 : decode cL_law_ 1937 = .ok (.invokevirtual 232, 3) := by decide +kernel
theorem dL_law__1940 : decode cL_law_ 1940 = .ok (.istore 6, 2) := by decide +kernel
theorem dL_law__1942 : decode cL_law_ 1942 = .ok (.aload_n 2, 1) := by decide +kernel
theorem dL_law__1943 : decode cL_law_ 1943 = .ok (.invokevirtual 139, 3) := by decide +kernel
theorem dL_law__1946 : decode cL_law_ 1946 = .ok (.iload 5, 2) := by decide +kernel
theorem dL_law__1948 : decode cL_law_ 1948 = .ok (.if_icmp .eq 5, 3) := by decide +kernel
theorem dL_law__1951 : decode cL_law_ 1951 = .ok (.iconst 0, 1) := by decide +kernel
theorem dL_law__1952 : decode cL_law_ 1952 = .ok (.ireturn, 1) := by decide +kernel
theorem dL_law__1953 : decode cL_law_ 1953 = .ok (.iload 5, 2) := by decide +kernel
theorem dL_law__1955 : decode cL_law_ 1955 = .ok (.ifCond .ne 15, 3) := by decide +kernel
theorem dL_law__1958 : decode cL_law_ 1958 = .ok (.aload_n 3, 1) := by decide +kernel
theorem dL_law__1959 : decode cL_law_ 1959 = .ok (.iconst 0, 1) := by decide +kernel
theorem dL_law__1960 : decode cL_law_ 1960 = .ok (.laload, 1) := by decide +kernel
theorem dL_law__1961 : decode cL_law_ 1961 = .ok (.iload 6, 2) := by decide +kernel
theorem dL_law__1963 : decode cL_law_ 1963 = .ok (.i2l, 1) := by decide +kernel
theorem dL_law__1964 : decode cL_law_ 1964 = .ok (.lcmp, 1) := by decide +kernel
theorem dL_law__1965 : decode cL_law_ 1965 = .ok (.ifCond .eq 5, 3) := by decide +kernel
theorem dL_law__1968 : decode cL_law_ 1968 = .ok (.iconst 0, 1) := by decide +kernel
theorem dL_law__1969 : decode cL_law_ 1969 = .ok (.ireturn, 1) := by decide +kernel
theorem dL_law__1970 : decode cL_law_ 1970 = .ok (.goto 552, 3) := by decide +kernel
theorem dL_law__1973 : decode cL_law_ 1973 = .ok (.aload_n 1, 1) := by decide +kernel
theorem dL_law__1974 : decode cL_law_ 1974 = .ok (.invokevirtual 233, 3) := by decide +kernel
theorem dL_law__1977 : decode cL_law_ 1977 = .ok (.aload_n 2, 1) := by decide +kernel
theorem dL_law__1978 : decode cL_law_ 1978 = .ok (.invokevirtual 236, 3) := by decide +kernel
theorem dL_law__1981 : decode cL_law_ 1981 = .ok (.if_icmp .eq 541, 3) := by decide +kernel
theorem dL_law__1984 : decode cL_law_ 1984 = .ok (.iconst 0, 1) := by decide +kernel
theorem dL_law__1985 : decode cL_law_ 1985 = .ok (.ireturn, 1) := by decide +kernel
theorem dL_law__1986 : decode cL_law_ 1986 = .ok (.aload_n 1, 1) := by decide +kernel
theorem dL_law__1987 : decode cL_law_ 1987 = .ok (.aload_n 0, 1) := by decide +kernel
theorem dL_law__1988 : decode cL_law_ 1988 = .ok (.iload 4, 2) := by decide +kernel
theorem dL_law__1990 : decode cL_law_ 1990 = .ok (.iconst 1, 1) := by decide +kernel
theorem dL_law__1991 : decode cL_law_ 1991 = .ok (.iadd, 1) := by decide +kernel
theorem dL_law__1992 : decode cL_law_ 1992 = .ok (.iaload, 1) := by decide +kernel
theorem dL_law__1993 : decode cL_law_ 1993 = .ok (.ifCond .eq 7, 3) := by decide +kernel
theorem dL_law__1996 : decode cL_law_ 1996 = .ok (.iconst 1, 1) := by decide +kernel
theorem dL_law__1997 : decode cL_law_ 1997 = .ok (.goto 4, 3) := by decide +kernel
theorem dL_law__2000 : decode cL_law_ 2000 = .ok (.iconst 0, 1) := by decide +kernel
theorem dL_law__2001 : decode cL_law_ 2001 = .ok (.aload_n 3, 1) := by decide +kernel
theorem dL_law__2002 : decode cL_law_ 2002 = .ok (.invokestatic 237, 3) := by decide +kernel
theorem dL_law__2005 : decode cL_law_ 2005 = .ok (.istore 5, 2) := by decide +kernel
theorem dL_law__2007 : decode cL_law_ 2007 = .ok (.aload_n 2, 1) := by decide +kernel
theorem dL_law__2008 : decode cL_law_ 2008 = .ok (.aload_n 0, 1) := by decide +kernel
theorem dL_law__2009 : decode cL_law_ 2009 = .ok (.iload 4, 2) := by decide +kernel
theorem dL_law__2011 : decode cL_law_ 2011 = .ok (.iconst 1, 1) := by decide +kernel
theorem dL_law__2012 : decode cL_law_ 2012 = .ok (.iadd, 1) := by decide +kernel
theorem dL_law__2013 : decode cL_law_ 2013 = .ok (.iaload, 1) := by decide +kernel
theorem dL_law__2014 : decode cL_law_ 2014 = .ok (.ifCond .eq 7, 3) := by decide +kernel
theorem dL_law__2017 : decode cL_law_ 2017 = .ok (.iconst 1, 1) := by decide +kernel
theorem dL_law__2018 : decode cL_law_ 2018 = .ok (.goto 4, 3) := by decide +kernel
theorem dL_law__2021 : decode cL_law_ 2021 = .ok (.iconst 0, 1) := by decide +kernel
theorem dL_law__2022 : decode cL_law_ 2022 = .ok (.invokevirtual 240, 3) := by decide +kernel
theorem dL_law__2025 : decode cL_law_ 2025 = .ok (.istore 6, 2) := by decide +kernel
theorem dL_law__2027 : decode cL_law_ 2027 = .ok (.aload_n 2, 1) := by decide +kernel
theorem dL_law__2028 : decode cL_law_ 2028 = .ok (.invokevirtual 139, 3) := by decide +kernel
theorem dL_law__2031 : decode cL_law_ 2031 = .ok (.iload 5, 2) := by decide +kernel
theorem dL_law__2033 : decode cL_law_ 2033 = .ok (.if_icmp .eq 5, 3) := by decide +kernel
theorem dL_law__2036 : decode cL_law_ 2036 = .ok (.iconst 0, 1) := by decide +kernel
theorem dL_law__2037 : decode cL_law_ 2037 = .ok (.ireturn, 1) := by decide +kernel
theorem dL_law__2038 : decode cL_law_ 2038 = .ok (.iload 5, 2) := by decide +kernel
theorem dL_law__2040 : decode cL_law_ 2040 = .ok (.ifCond .ne 15, 3) := by decide +kernel
theorem dL_law__2043 : decode cL_law_ 2043 = .ok (.aload_n 3, 1) := by decide +kernel
theorem dL_law__2044 : decode cL_law_ 2044 = .ok (.iconst 0, 1) := by decide +kernel
theorem dL_law__2045 : decode cL_law_ 2045 = .ok (.laload, 1) := by decide +kernel
theorem dL_law__2046 : decode cL_law_ 2046 = .ok (.iload 6, 2) := by decide +kernel
theorem dL_law__2048 : decode cL_law_ 2048 = .ok (.i2l, 1) := by decide +kernel
theorem dL_law__2049 : decode cL_law_ 2049 = .ok (.lcmp, 1) := by decide +kernel
theorem dL_law__2050 : decode cL_law_ 2050 = .ok (.ifCond .eq 5, 3) := by decide +kernel
theorem dL_law__2053 : decode cL_law_ 2053 = .ok (.iconst 0, 1) := by decide +kernel
theorem dL_law__2054 : decode cL_law_ 2054 = .ok (.ireturn, 1) := by decide +kernel
theorem dL_law__2055 : decode cL_law_ 2055 = .ok (.goto 467, 3) := by decide +kernel
theorem dL_law__2058 : decode cL_law_ 2058 = .ok (.aload_n 1, 1) := by decide +kernel
theorem dL_law__2059 : decode cL_law_ 2059 = .ok (.aload_n 3, 1) := by decide +kernel
theorem dL_law__2060 : decode cL_law_ 2060 = .ok (.invokestatic 241, 3) := by decide +kernel
theorem dL_law__2063 : decode cL_law_ 2063 = .ok (.istore 5, 2) := by decide +kernel
theorem dL_law__2065 : decode cL_law_ 2065 = .ok (.aload_n 2, 1) := by decide +kernel
theorem dL_law__2066 : decode cL_law_ 2066 = .ok (.invokevirtual 243, 3) := by decide +kernel
theorem dL_law__2069 : decode cL_law_ 2069 = .ok (.istore 6, 2) := by decide +kernel
theorem dL_law__2071 : decode cL_law_ 2071 = .ok (.aload_n 2, 1) := by decide +kernel
theorem dL_law__2072 : decode cL_law_ 2072 = .ok (.invokevirtual 139, 3) := by decide +kernel
theorem dL_law__2075 : decode cL_law_ 2075 = .ok (.iload 5, 2) := by decide +kernel
theorem dL_law__2077 : decode cL_law_ 2077 = .ok (.if_icmp .eq 5, 3) := by decide +kernel
theorem dL_law__2080 : decode cL_law_ 2080 = .ok (.iconst 0, 1) := by decide +kernel
theorem dL_law__2081 : decode cL_law_ 2081 = .ok (.ireturn, 1) := by decide +kernel
theorem dL_law__2082 : decode cL_law_ 2082 = .ok (.iload 5, 2) := by decide +kernel
theorem dL_law__2084 : decode cL_law_ 2084 = .ok (.ifCond .ne 15, 3) := by decide +kernel
theorem dL_law__2087 : decode cL_law_ 2087 = .ok (.aload_n 3, 1) := by decide +kernel
theorem dL_law__2088 : decode cL_law_ 2088 = .ok (.iconst 0, 1) := by decide +kernel
theorem dL_law__2089 : decode cL_law_ 2089 = .ok (.laload, 1) := by decide +kernel
theorem dL_law__2090 : decode cL_law_ 2090 = .ok (.iload 6, 2) := by decide +kernel
theorem dL_law__2092 : decode cL_law_ 2092 = .ok (.i2l, 1) := by decide +kernel
theorem dL_law__2093 : decode cL_law_ 2093 = .ok (.lcmp, 1) := by decide +kernel
theorem dL_law__2094 : decode cL_law_ 2094 = .ok (.ifCond .eq 5, 3) := by decide +kernel
theorem dL_law__2097 : decode cL_law_ 2097 = .ok (.iconst 0, 1) := by decide +kernel
theorem dL_law__2098 : decode cL_law_ 2098 = .ok (.ireturn, 1) := by decide +kernel
theorem dL_law__2099 : decode cL_law_ 2099 = .ok (.goto 423, 3) := by decide +kernel
theorem dL_law__2102 : decode cL_law_ 2102 = .ok (.aload_n 1, 1) := by decide +kernel
theorem dL_law__2103 : decode cL_law_ 2103 = .ok (.invokevirtual 244, 3) := by decide +kernel
theorem dL_law__2106 : decode cL_law_ 2106 = .ok (.aload_n 2, 1) := by decide +kernel
theorem dL_law__2107 : decode cL_law_ 2107 = .ok (.invokevirtual 247, 3) := by decide +kernel
theorem dL_law__2110 : decode cL_law_ 2110 = .ok (.if_icmp .eq 412, 3) := by decide +kernel
theorem dL_law__2113 : decode cL_law_ 2113 = .ok (.iconst 0, 1) := by decide +kernel
theorem dL_law__2114 : decode cL_law_ 2114 = .ok (.ireturn, 1) := by decide +kernel
theorem dL_law__2115 : decode cL_law_ 2115 = .ok (.aload_n 1, 1) := by decide +kernel
theorem dL_law__2116 : decode cL_law_ 2116 = .ok (.aload_n 0, 1) := by decide +kernel
theorem dL_law__2117 : decode cL_law_ 2117 = .ok (.iload 4, 2) := by decide +kernel
theorem dL_law__2119 : decode cL_law_ 2119 = .ok (.iconst 1, 1) := by decide +kernel
theorem dL_law__2120 : decode cL_law_ 2120 = .ok (.iadd, 1) := by decide +kernel
theorem dL_law__2121 : decode cL_law_ 2121 = .ok (.iaload, 1) := by decide +kernel
theorem dL_law__2122 : decode cL_law_ 2122 = .ok (.aload_n 0, 1) := by decide +kernel
theorem dL_law__2123 : decode cL_law_ 2123 = .ok (.iload 4, 2) := by decide +kernel
theorem dL_law__2125 : decode cL_law_ 2125 = .ok (.iconst 2, 1) := by decide +kernel
theorem dL_law__2126 : decode cL_law_ 2126 = .ok (.iadd, 1) := by decide +kernel
theorem dL_law__2127 : decode cL_law_ 2127 = .ok (.iaload, 1) := by decide +kernel
theorem dL_law__2128 : decode cL_law_ 2128 = .ok (.ifCond .eq 7, 3) := by decide +kernel
theorem dL_law__2131 : decode cL_law_ 2131 = .ok (.iconst 1, 1) := by decide +kernel
theorem dL_law__2132 : decode cL_law_ 2132 = .ok (.goto 4, 3) := by decide +kernel
theorem dL_law__2135 : decode cL_law_ 2135 = .ok (.iconst 0, 1) := by decide +kernel
theorem dL_law__2136 : decode cL_law_ 2136 = .ok (.aload_n 3, 1) := by decide +kernel
theorem dL_law__2137 : decode cL_law_ 2137 = .ok (.invokestatic 248, 3) := by decide +kernel
theorem dL_law__2140 : decode cL_law_ 2140 = .ok (.istore 5, 2) := by decide +kernel
theorem dL_law__2142 : decode cL_law_ 2142 = .ok (.aload_n 2, 1) := by decide +kernel
theorem dL_law__2143 : decode cL_law_ 2143 = .ok (.aload_n 0, 1) := by decide +kernel
theorem dL_law__2144 : decode cL_law_ 2144 = .ok (.iload 4, 2) := by decide +kernel
theorem dL_law__2146 : decode cL_law_ 2146 = .ok (.iconst 1, 1) := by decide +kernel
theorem dL_law__2147 : decode cL_law_ 2147 = .ok (.iadd, 1) := by decide +kernel
theorem dL_law__2148 : decode cL_law_ 2148 = .ok (.iaload, 1) := by decide +kernel
theorem dL_law__2149 : decode cL_law_ 2149 = .ok (.aload_n 0, 1) := by decide +kernel
theorem dL_law__2150 : decode cL_law_ 2150 = .ok (.iload 4, 2) := by decide +kernel
theorem dL_law__2152 : decode cL_law_ 2152 = .ok (.iconst 2, 1) := by decide +kernel
theorem dL_law__2153 : decode cL_law_ 2153 = .ok (.iadd, 1) := by decide +kernel
theorem dL_law__2154 : decode cL_law_ 2154 = .ok (.iaload, 1) := by decide +kernel
theorem dL_law__2155 : decode cL_law_ 2155 = .ok (.ifCond .eq 7, 3) := by decide +kernel
theorem dL_law__2158 : decode cL_law_ 2158 = .ok (.iconst 1, 1) := by decide +kernel
theorem dL_law__2159 : decode cL_law_ 2159 = .ok (.goto 4, 3) := by decide +kernel
theorem dL_law__2162 : decode cL_law_ 2162 = .ok (.iconst 0, 1) := by decide +kernel
theorem dL_law__2163 : decode cL_law_ 2163 = .ok (.invokevirtual 251, 3) := by decide +kernel
theorem dL_law__2166 : decode cL_law_ 2166 = .ok (.istore 6, 2) := by decide +kernel
theorem dL_law__2168 : decode cL_law_ 2168 = .ok (.aload_n 2, 1) := by decide +kernel
theorem dL_law__2169 : decode cL_law_ 2169 = .ok (.invokevirtual 139, 3) := by decide +kernel
theorem dL_law__2172 : decode cL_law_ 2172 = .ok (.iload 5, 2) := by decide +kernel
theorem dL_law__2174 : decode cL_law_ 2174 = .ok (.if_icmp .eq 5, 3) := by decide +kernel
theorem dL_law__2177 : decode cL_law_ 2177 = .ok (.iconst 0, 1) := by decide +kernel
theorem dL_law__2178 : decode cL_law_ 2178 = .ok (.ireturn, 1) := by decide +kernel
theorem dL_law__2179 : decode cL_law_ 2179 = .ok (.iload 5, 2) := by decide +kernel
theorem dL_law__2181 : decode cL_law_ 2181 = .ok (.ifCond .ne 15, 3) := by decide +kernel
theorem dL_law__2184 : decode cL_law_ 2184 = .ok (.aload_n 3, 1) := by decide +kernel
theorem dL_law__2185 : decode cL_law_ 2185 = .ok (.iconst 0, 1) := by decide +kernel
theorem dL_law__2186 : decode cL_law_ 2186 = .ok (.laload, 1) := by decide +kernel
theorem dL_law__2187 : decode cL_law_ 2187 = .ok (.iload 6, 2) := by decide +kernel
theorem dL_law__2189 : decode cL_law_ 2189 = .ok (.i2l, 1) := by decide +kernel
theorem dL_law__2190 : decode cL_law_ 2190 = .ok (.lcmp, 1) := by decide +kernel
theorem dL_law__2191 : decode cL_law_ 2191 = .ok (.ifCond .eq 5, 3) := by decide +kernel
theorem dL_law__2194 : decode cL_law_ 2194 = .ok (.iconst 0, 1) := by decide +kernel
theorem dL_law__2195 : decode cL_law_ 2195 = .ok (.ireturn, 1) := by decide +kernel
theorem dL_law__2196 : decode cL_law_ 2196 = .ok (.goto 326, 3) := by decide +kernel
theorem dL_law__2199 : decode cL_law_ 2199 = .ok (.aload_n 1, 1) := by decide +kernel
theorem dL_law__2200 : decode cL_law_ 2200 = .ok (.aload_n 0, 1) := by decide +kernel
theorem dL_law__2201 : decode cL_law_ 2201 = .ok (.iload 4, 2) := by decide +kernel
theorem dL_law__2203 : decode cL_law_ 2203 = .ok (.iconst 1, 1) := by decide +kernel
theorem dL_law__2204 : decode cL_law_ 2204 = .ok (.iadd, 1) := by decide +kernel
theorem dL_law__2205 : decode cL_law_ 2205 = .ok (.iaload, 1) := by decide +kernel
theorem dL_law__2206 : decode cL_law_ 2206 = .ok (.aload_n 0, 1) := by decide +kernel
theorem dL_law__2207 : decode cL_law_ 2207 = .ok (.iload 4, 2) := by decide +kernel
theorem dL_law__2209 : decode cL_law_ 2209 = .ok (.iconst 2, 1) := by decide +kernel
theorem dL_law__2210 : decode cL_law_ 2210 = .ok (.iadd, 1) := by decide +kernel
theorem dL_law__2211 : decode cL_law_ 2211 = .ok (.iaload, 1) := by decide +kernel
theorem dL_law__2212 : decode cL_law_ 2212 = .ok (.ifCond .eq 7, 3) := by decide +kernel
theorem dL_law__2215 : decode cL_law_ 2215 = .ok (.iconst 1, 1) := by decide +kernel
theorem dL_law__2216 : decode cL_law_ 2216 = .ok (.goto 4, 3) := by decide +kernel
theorem dL_law__2219 : decode cL_law_ 2219 = .ok (.iconst 0, 1) := by decide +kernel
theorem dL_law__2220 : decode cL_law_ 2220 = .ok (.aload_n 3, 1) := by decide +kernel
theorem dL_law__2221 : decode cL_law_ 2221 = .ok (.invokestatic 252, 3) := by decide +kernel
theorem dL_law__2224 : decode cL_law_ 2224 = .ok (.istore 5, 2) := by decide +kernel
theorem dL_law__2226 : decode cL_law_ 2226 = .ok (.aload_n 2, 1) := by decide +kernel
theorem dL_law__2227 : decode cL_law_ 2227 = .ok (.aload_n 0, 1) := by decide +kernel
theorem dL_law__2228 : decode cL_law_ 2228 = .ok (.iload 4, 2) := by decide +kernel
theorem dL_law__2230 : decode cL_law_ 2230 = .ok (.iconst 1, 1) := by decide +kernel
theorem dL_law__2231 : decode cL_law_ 2231 = .ok (.iadd, 1) := by decide +kernel
theorem dL_law__2232 : decode cL_law_ 2232 = .ok (.iaload, 1) := by decide +kernel
theorem dL_law__2233 : decode cL_law_ 2233 = .ok (.aload_n 0, 1) := by decide +kernel
theorem dL_law__2234 : decode cL_law_ 2234 = .ok (.iload 4, 2) := by decide +kernel
theorem dL_law__2236 : decode cL_law_ 2236 = .ok (.iconst 2, 1) := by decide +kernel
theorem dL_law__2237 : decode cL_law_ 2237 = .ok (.iadd, 1) := by decide +kernel
theorem dL_law__2238 : decode cL_law_ 2238 = .ok (.iaload, 1) := by decide +kernel
theorem dL_law__2239 : decode cL_law_ 2239 = .ok (.ifCond .eq 7, 3) := by decide +kernel
theorem dL_law__2242 : decode cL_law_ 2242 = .ok (.iconst 1, 1) := by decide +kernel
theorem dL_law__2243 : decode cL_law_ 2243 = .ok (.goto 4, 3) := by decide +kernel
theorem dL_law__2246 : decode cL_law_ 2246 = .ok (.iconst 0, 1) := by decide +kernel
theorem dL_law__2247 : decode cL_law_ 2247 = .ok (.invokevirtual 254, 3) := by decide +kernel
theorem dL_law__2250 : decode cL_law_ 2250 = .ok (.istore 6, 2) := by decide +kernel
theorem dL_law__2252 : decode cL_law_ 2252 = .ok (.aload_n 2, 1) := by decide +kernel
theorem dL_law__2253 : decode cL_law_ 2253 = .ok (.invokevirtual 139, 3) := by decide +kernel
theorem dL_law__2256 : decode cL_law_ 2256 = .ok (.iload 5, 2) := by decide +kernel
theorem dL_law__2258 : decode cL_law_ 2258 = .ok (.if_icmp .eq 5, 3) := by decide +kernel
theorem dL_law__2261 : decode cL_law_ 2261 = .ok (.iconst 0, 1) := by decide +kernel
theorem dL_law__2262 : decode cL_law_ 2262 = .ok (.ireturn, 1) := by decide +kernel
theorem dL_law__2263 : decode cL_law_ 2263 = .ok (.iload 5, 2) := by decide +kernel
theorem dL_law__2265 : decode cL_law_ 2265 = .ok (.ifCond .ne 15, 3) := by decide +kernel
theorem dL_law__2268 : decode cL_law_ 2268 = .ok (.aload_n 3, 1) := by decide +kernel
theorem dL_law__2269 : decode cL_law_ 2269 = .ok (.iconst 0, 1) := by decide +kernel
theorem dL_law__2270 : decode cL_law_ 2270 = .ok (.laload, 1) := by decide +kernel
theorem dL_law__2271 : decode cL_law_ 2271 = .ok (.iload 6, 2) := by decide +kernel
theorem dL_law__2273 : decode cL_law_ 2273 = .ok (.i2l, 1) := by decide +kernel
theorem dL_law__2274 : decode cL_law_ 2274 = .ok (.lcmp, 1) := by decide +kernel
theorem dL_law__2275 : decode cL_law_ 2275 = .ok (.ifCond .eq 5, 3) := by decide +kernel
theorem dL_law__2278 : decode cL_law_ 2278 = .ok (.iconst 0, 1) := by decide +kernel
theorem dL_law__2279 : decode cL_law_ 2279 = .ok (.ireturn, 1) := by decide +kernel
theorem dL_law__2280 : decode cL_law_ 2280 = .ok (.goto 242, 3) := by decide +kernel
theorem dL_law__2283 : decode cL_law_ 2283 = .ok (.aload_n 1, 1) := by decide +kernel
theorem dL_law__2284 : decode cL_law_ 2284 = .ok (.aload_n 0, 1) := by decide +kernel
theorem dL_law__2285 : decode cL_law_ 2285 = .ok (.iload 4, 2) := by decide +kernel
theorem dL_law__2287 : decode cL_law_ 2287 = .ok (.iconst 1, 1) := by decide +kernel
theorem dL_law__2288 : decode cL_law_ 2288 = .ok (.iadd, 1) := by decide +kernel
theorem dL_law__2289 : decode cL_law_ 2289 = .ok (.iaload, 1) := by decide +kernel
theorem dL_law__2290 : decode cL_law_ 2290 = .ok (.aload_n 0, 1) := by decide +kernel
theorem dL_law__2291 : decode cL_law_ 2291 = .ok (.iload 4, 2) := by decide +kernel
theorem dL_law__2293 : decode cL_law_ 2293 = .ok (.iconst 2, 1) := by decide +kernel
theorem dL_law__2294 : decode cL_law_ 2294 = .ok (.iadd, 1) := by decide +kernel
theorem dL_law__2295 : decode cL_law_ 2295 = .ok (.iaload, 1) := by decide +kernel
theorem dL_law__2296 : decode cL_law_ 2296 = .ok (.ifCond .eq 7, 3) := by decide +kernel
theorem dL_law__2299 : decode cL_law_ 2299 = .ok (.iconst 1, 1) := by decide +kernel
theorem dL_law__2300 : decode cL_law_ 2300 = .ok (.goto 4, 3) := by decide +kernel
theorem dL_law__2303 : decode cL_law_ 2303 = .ok (.iconst 0, 1) := by decide +kernel
theorem dL_law__2304 : decode cL_law_ 2304 = .ok (.aload_n 3, 1) := by decide +kernel
theorem dL_law__2305 : decode cL_law_ 2305 = .ok (.invokestatic 255, 3) := by decide +kernel
theorem dL_law__2308 : decode cL_law_ 2308 = .ok (.istore 5, 2) := by decide +kernel
theorem dL_law__2310 : decode cL_law_ 2310 = .ok (.aload_n 2, 1) := by decide +kernel
theorem dL_law__2311 : decode cL_law_ 2311 = .ok (.aload_n 0, 1) := by decide +kernel
theorem dL_law__2312 : decode cL_law_ 2312 = .ok (.iload 4, 2) := by decide +kernel
theorem dL_law__2314 : decode cL_law_ 2314 = .ok (.iconst 1, 1) := by decide +kernel
theorem dL_law__2315 : decode cL_law_ 2315 = .ok (.iadd, 1) := by decide +kernel
theorem dL_law__2316 : decode cL_law_ 2316 = .ok (.iaload, 1) := by decide +kernel
theorem dL_law__2317 : decode cL_law_ 2317 = .ok (.aload_n 0, 1) := by decide +kernel
theorem dL_law__2318 : decode cL_law_ 2318 = .ok (.iload 4, 2) := by decide +kernel
theorem dL_law__2320 : decode cL_law_ 2320 = .ok (.iconst 2, 1) := by decide +kernel
theorem dL_law__2321 : decode cL_law_ 2321 = .ok (.iadd, 1) := by decide +kernel
theorem dL_law__2322 : decode cL_law_ 2322 = .ok (.iaload, 1) := by decide +kernel
theorem dL_law__2323 : decode cL_law_ 2323 = .ok (.ifCond .eq 7, 3) := by decide +kernel
theorem dL_law__2326 : decode cL_law_ 2326 = .ok (.iconst 1, 1) := by decide +kernel
theorem dL_law__2327 : decode cL_law_ 2327 = .ok (.goto 4, 3) := by decide +kernel
theorem dL_law__2330 : decode cL_law_ 2330 = .ok (.iconst 0, 1) := by decide +kernel
theorem dL_law__2331 : decode cL_law_ 2331 = .ok (.invokevirtual 257, 3) := by decide +kernel
theorem dL_law__2334 : decode cL_law_ 2334 = .ok (.istore 6, 2) := by decide +kernel
theorem dL_law__2336 : decode cL_law_ 2336 = .ok (.aload_n 2, 1) := by decide +kernel
theorem dL_law__2337 : decode cL_law_ 2337 = .ok (.invokevirtual 139, 3) := by decide +kernel
theorem dL_law__2340 : decode cL_law_ 2340 = .ok (.iload 5, 2) := by decide +kernel
theorem dL_law__2342 : decode cL_law_ 2342 = .ok (.if_icmp .eq 5, 3) := by decide +kernel
theorem dL_law__2345 : decode cL_law_ 2345 = .ok (.iconst 0, 1) := by decide +kernel
theorem dL_law__2346 : decode cL_law_ 2346 = .ok (.ireturn, 1) := by decide +kernel
theorem dL_law__2347 : decode cL_law_ 2347 = .ok (.iload 5, 2) := by decide +kernel
theorem dL_law__2349 : decode cL_law_ 2349 = .ok (.ifCond .ne 15, 3) := by decide +kernel
theorem dL_law__2352 : decode cL_law_ 2352 = .ok (.aload_n 3, 1) := by decide +kernel
theorem dL_law__2353 : decode cL_law_ 2353 = .ok (.iconst 0, 1) := by decide +kernel
theorem dL_law__2354 : decode cL_law_ 2354 = .ok (.laload, 1) := by decide +kernel
theorem dL_law__2355 : decode cL_law_ 2355 = .ok (.iload 6, 2) := by decide +kernel
theorem dL_law__2357 : decode cL_law_ 2357 = .ok (.i2l, 1) := by decide +kernel
theorem dL_law__2358 : decode cL_law_ 2358 = .ok (.lcmp, 1) := by decide +kernel
theorem dL_law__2359 : decode cL_law_ 2359 = .ok (.ifCond .eq 5, 3) := by decide +kernel
theorem dL_law__2362 : decode cL_law_ 2362 = .ok (.iconst 0, 1) := by decide +kernel
theorem dL_law__2363 : decode cL_law_ 2363 = .ok (.ireturn, 1) := by decide +kernel
theorem dL_law__2364 : decode cL_law_ 2364 = .ok (.goto 158, 3) := by decide +kernel
theorem dL_law__2367 : decode cL_law_ 2367 = .ok (.aload_n 1, 1) := by decide +kernel
theorem dL_law__2368 : decode cL_law_ 2368 = .ok (.aload_n 0, 1) := by decide +kernel
theorem dL_law__2369 : decode cL_law_ 2369 = .ok (.iload 4, 2) := by decide +kernel
theorem dL_law__2371 : decode cL_law_ 2371 = .ok (.iconst 1, 1) := by decide +kernel
theorem dL_law__2372 : decode cL_law_ 2372 = .ok (.iadd, 1) := by decide +kernel
theorem dL_law__2373 : decode cL_law_ 2373 = .ok (.iaload, 1) := by decide +kernel
theorem dL_law__2374 : decode cL_law_ 2374 = .ok (.aload_n 0, 1) := by decide +kernel
theorem dL_law__2375 : decode cL_law_ 2375 = .ok (.iload 4, 2) := by decide +kernel
theorem dL_law__2377 : decode cL_law_ 2377 = .ok (.iconst 2, 1) := by decide +kernel
theorem dL_law__2378 : decode cL_law_ 2378 = .ok (.iadd, 1) := by decide +kernel
theorem dL_law__2379 : decode cL_law_ 2379 = .ok (.iaload, 1) := by decide +kernel
theorem dL_law__2380 : decode cL_law_ 2380 = .ok (.aload_n 3, 1) := by decide +kernel
theorem dL_law__2381 : decode cL_law_ 2381 = .ok (.invokestatic 258, 3) := by decide +kernel
theorem dL_law__2384 : decode cL_law_ 2384 = .ok (.istore 5, 2) := by decide +kernel
theorem dL_law__2386 : decode cL_law_ 2386 = .ok (.aload_n 2, 1) := by decide +kernel
theorem dL_law__2387 : decode cL_law_ 2387 = .ok (.aload_n 0, 1) := by decide +kernel
theorem dL_law__2388 : decode cL_law_ 2388 = .ok (.iload 4, 2) := by decide +kernel
theorem dL_law__2390 : decode cL_law_ 2390 = .ok (.iconst 1, 1) := by decide +kernel
theorem dL_law__2391 : decode cL_law_ 2391 = .ok (.iadd, 1) := by decide +kernel
theorem dL_law__2392 : decode cL_law_ 2392 = .ok (.iaload, 1) := by decide +kernel
theorem dL_law__2393 : decode cL_law_ 2393 = .ok (.aload_n 0, 1) := by decide +kernel
theorem dL_law__2394 : decode cL_law_ 2394 = .ok (.iload 4, 2) := by decide +kernel
theorem dL_law__2396 : decode cL_law_ 2396 = .ok (.iconst 2, 1) := by decide +kernel
theorem dL_law__2397 : decode cL_law_ 2397 = .ok (.iadd, 1) := by decide +kernel
theorem dL_law__2398 : decode cL_law_ 2398 = .ok (.iaload, 1) := by decide +kernel
theorem dL_law__2399 : decode cL_law_ 2399 = .ok (.invokevirtual 260, 3) := by decide +kernel
theorem dL_law__2402 : decode cL_law_ 2402 = .ok (.istore 6, 2) := by decide +kernel
theorem dL_law__2404 : decode cL_law_ 2404 = .ok (.aload_n 2, 1) := by decide +kernel
theorem dL_law__2405 : decode cL_law_ 2405 = .ok (.invokevirtual 139, 3) := by decide +kernel
theorem dL_law__2408 : decode cL_law_ 2408 = .ok (.iload 5, 2) := by decide +kernel
theorem dL_law__2410 : decode cL_law_ 2410 = .ok (.if_icmp .eq 5, 3) := by decide +kernel
theorem dL_law__2413 : decode cL_law_ 2413 = .ok (.iconst 0, 1) := by decide +kernel
theorem dL_law__2414 : decode cL_law_ 2414 = .ok (.ireturn, 1) := by decide +kernel
theorem dL_law__2415 : decode cL_law_ 2415 = .ok (.iload 5, 2) := by decide +kernel
theorem dL_law__2417 : decode cL_law_ 2417 = .ok (.ifCond .ne 15, 3) := by decide +kernel
theorem dL_law__2420 : decode cL_law_ 2420 = .ok (.aload_n 3, 1) := by decide +kernel
theorem dL_law__2421 : decode cL_law_ 2421 = .ok (.iconst 0, 1) := by decide +kernel
theorem dL_law__2422 : decode cL_law_ 2422 = .ok (.laload, 1) := by decide +kernel
theorem dL_law__2423 : decode cL_law_ 2423 = .ok (.iload 6, 2) := by decide +kernel
theorem dL_law__2425 : decode cL_law_ 2425 = .ok (.i2l, 1) := by decide +kernel
theorem dL_law__2426 : decode cL_law_ 2426 = .ok (.lcmp, 1) := by decide +kernel
theorem dL_law__2427 : decode cL_law_ 2427 = .ok (.ifCond .eq 5, 3) := by decide +kernel
theorem dL_law__2430 : decode cL_law_ 2430 = .ok (.iconst 0, 1) := by decide +kernel
theorem dL_law__2431 : decode cL_law_ 2431 = .ok (.ireturn, 1) := by decide +kernel
theorem dL_law__2432 : decode cL_law_ 2432 = .ok (.goto 90, 3) := by decide +kernel
theorem dL_law__2435 : decode cL_law_ 2435 = .ok (.aload_n 1, 1) := by decide +kernel
theorem dL_law__2436 : decode cL_law_ 2436 = .ok (.aload_n 0, 1) := by decide +kernel
theorem dL_law__2437 : decode cL_law_ 2437 = .ok (.iload 4, 2) := by decide +kernel
theorem dL_law__2439 : decode cL_law_ 2439 = .ok (.iconst 1, 1) := by decide +kernel
theorem dL_law__2440 : decode cL_law_ 2440 = .ok (.iadd, 1) := by decide +kernel
theorem dL_law__2441 : decode cL_law_ 2441 = .ok (.iaload, 1) := by decide +kernel
theorem dL_law__2442 : decode cL_law_ 2442 = .ok (.invokevirtual 261, 3) := by decide +kernel
theorem dL_law__2445 : decode cL_law_ 2445 = .ok (.aload_n 2, 1) := by decide +kernel
theorem dL_law__2446 : decode cL_law_ 2446 = .ok (.aload_n 0, 1) := by decide +kernel
theorem dL_law__2447 : decode cL_law_ 2447 = .ok (.iload 4, 2) := by decide +kernel
theorem dL_law__2449 : decode cL_law_ 2449 = .ok (.iconst 1, 1) := by decide +kernel
theorem dL_law__2450 : decode cL_law_ 2450 = .ok (.iadd, 1) := by decide +kernel
theorem dL_law__2451 : decode cL_law_ 2451 = .ok (.iaload, 1) := by decide +kernel
theorem dL_law__2452 : decode cL_law_ 2452 = .ok (.invokevirtual 264, 3) := by decide +kernel
theorem dL_law__2455 : decode cL_law_ 2455 = .ok (.if_icmp .eq 67, 3) := by decide +kernel
theorem dL_law__2458 : decode cL_law_ 2458 = .ok (.iconst 0, 1) := by decide +kernel
theorem dL_law__2459 : decode cL_law_ 2459 = .ok (.ireturn, 1) := by decide +kernel
theorem dL_law__2460 : decode cL_law_ 2460 = .ok (.aload_n 1, 1) := by decide +kernel
theorem dL_law__2461 : decode cL_law_ 2461 = .ok (.invokevirtual 265, 3) := by decide +kernel
theorem dL_law__2464 : decode cL_law_ 2464 = .ok (.aload_n 2, 1) := by decide +kernel
theorem dL_law__2465 : decode cL_law_ 2465 = .ok (.invokevirtual 269, 3) := by decide +kernel
theorem dL_law__2468 : decode cL_law_ 2468 = .ok (.if_icmp .eq 54, 3) := by decide +kernel
theorem dL_law__2471 : decode cL_law_ 2471 = .ok (.iconst 0, 1) := by decide +kernel
theorem dL_law__2472 : decode cL_law_ 2472 = .ok (.ireturn, 1) := by decide +kernel
theorem dL_law__2473 : decode cL_law_ 2473 = .ok (.aload_n 1, 1) := by decide +kernel
theorem dL_law__2474 : decode cL_law_ 2474 = .ok (.invokevirtual 270, 3) := by decide +kernel
theorem dL_law__2477 : decode cL_law_ 2477 = .ok (.aload_n 2, 1) := by decide +kernel
theorem dL_law__2478 : decode cL_law_ 2478 = .ok (.invokevirtual 273, 3) := by decide +kernel
theorem dL_law__2481 : decode cL_law_ 2481 = .ok (.goto 41, 3) := by decide +kernel
theorem dL_law__2484 : decode cL_law_ 2484 = .ok (.aload_n 1, 1) := by decide +kernel
theorem dL_law__2485 : decode cL_law_ 2485 = .ok (.invokevirtual 274, 3) := by decide +kernel
theorem dL_law__2488 : decode cL_law_ 2488 = .ok (.aload_n 2, 1) := by decide +kernel
theorem dL_law__2489 : decode cL_law_ 2489 = .ok (.invokevirtual 277, 3) := by decide +kernel
theorem dL_law__2492 : decode cL_law_ 2492 = .ok (.if_icmp .eq 30, 3) := by decide +kernel
theorem dL_law__2495 : decode cL_law_ 2495 = .ok (.iconst 0, 1) := by decide +kernel
theorem dL_law__2496 : decode cL_law_ 2496 = .ok (.ireturn, 1) := by decide +kernel
theorem dL_law__2497 : decode cL_law_ 2497 = .ok (.aload_n 1, 1) := by decide +kernel
theorem dL_law__2498 : decode cL_law_ 2498 = .ok (.aload_n 0, 1) := by decide +kernel
theorem dL_law__2499 : decode cL_law_ 2499 = .ok (.iload 4, 2) := by decide +kernel
theorem dL_law__2501 : decode cL_law_ 2501 = .ok (.iconst 1, 1) := by decide +kernel
theorem dL_law__2502 : decode cL_law_ 2502 = .ok (.iadd, 1) := by decide +kernel
theorem dL_law__2503 : decode cL_law_ 2503 = .ok (.iaload, 1) := by decide +kernel
theorem dL_law__2504 : decode cL_law_ 2504 = .ok (.invokevirtual 278, 3) := by decide +kernel
theorem dL_law__2507 : decode cL_law_ 2507 = .ok (.aload_n 2, 1) := by decide +kernel
theorem dL_law__2508 : decode cL_law_ 2508 = .ok (.aload_n 0, 1) := by decide +kernel
theorem dL_law__2509 : decode cL_law_ 2509 = .ok (.iload 4, 2) := by decide +kernel
theorem dL_law__2511 : decode cL_law_ 2511 = .ok (.iconst 1, 1) := by decide +kernel
theorem dL_law__2512 : decode cL_law_ 2512 = .ok (.iadd, 1) := by decide +kernel
theorem dL_law__2513 : decode cL_law_ 2513 = .ok (.iaload, 1) := by decide +kernel
theorem dL_law__2514 : decode cL_law_ 2514 = .ok (.invokevirtual 281, 3) := by decide +kernel
theorem dL_law__2517 : decode cL_law_ 2517 = .ok (.if_icmp .eq 5, 3) := by decide +kernel
theorem dL_law__2520 : decode cL_law_ 2520 = .ok (.iconst 0, 1) := by decide +kernel
theorem dL_law__2521 : decode cL_law_ 2521 = .ok (.ireturn, 1) := by decide +kernel
theorem dL_law__2522 : decode cL_law_ 2522 = .ok (.iinc 4 6, 3) := by decide +kernel
theorem dL_law__2525 : decode cL_law_ 2525 = .ok (.goto (-2502), 3) := by decide +kernel
theorem dL_law__2528 : decode cL_law_ 2528 = .ok (.iconst 1, 1) := by decide +kernel
theorem dL_law__2529 : decode cL_law_ 2529 = .ok (.ireturn, 1) := by decide +kernel
