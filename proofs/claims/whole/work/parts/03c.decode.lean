theorem dX4_nestlings_11 : decode cX4_nestlings 11 = .ok (.iload_n 1, 1) := by decide +kernel
theorem dX4_nestlings_12 : decode cX4_nestlings 12 = .ok (.i2l, 1) := by decide +kernel
theorem dX4_nestlings_13 : decode cX4_nestlings 13 = .ok (.lconst 0, 1) := by decide +kernel
theorem dX4_nestlings_14 : decode cX4_nestlings 14 = .ok (.iconst 1, 1) := by decide +kernel
theorem dX4_nestlings_15 : decode cX4_nestlings 15 = .ok (.aload_n 0, 1) := by decide +kernel
theorem dX4_nestlings_16 : decode cX4_nestlings 16 = .ok (.getfield 88, 3) := by decide +kernel
theorem dX4_nestlings_19 : decode cX4_nestlings 19 = .ok (.ishl, 1) := by decide +kernel
theorem dX4_nestlings_20 : decode cX4_nestlings 20 = .ok (.iconst 1, 1) := by decide +kernel
theorem dX4_nestlings_21 : decode cX4_nestlings 21 = .ok (.isub, 1) := by decide +kernel
theorem dX4_nestlings_22 : decode cX4_nestlings 22 = .ok (.i2l, 1) := by decide +kernel
theorem dX4_nestlings_23 : decode cX4_nestlings 23 = .ok (.invokestatic 58, 3) := by decide +kernel
theorem dX4_nestlings_26 : decode cX4_nestlings 26 = .ok (.ifCond .eq 29, 3) := by decide +kernel
theorem dX4_nestlings_29 : decode cX4_nestlings 29 = .ok (.iload_n 3, 1) := by decide +kernel
theorem dX4_nestlings_30 : decode cX4_nestlings 30 = .ok (.invokestatic 126, 3) := by decide +kernel
theorem dX4_nestlings_33 : decode cX4_nestlings 33 = .ok (.ifCond .eq 22, 3) := by decide +kernel
theorem dX4_nestlings_36 : decode cX4_nestlings 36 = .ok (.iload 4, 2) := by decide +kernel
theorem dX4_nestlings_38 : decode cX4_nestlings 38 = .ok (.invokestatic 126, 3) := by decide +kernel
theorem dX4_nestlings_41 : decode cX4_nestlings 41 = .ok (.ifCond .eq 14, 3) := by decide +kernel
theorem dX4_nestlings_44 : decode cX4_nestlings 44 = .ok (.iload 5, 2) := by decide +kernel
theorem dX4_nestlings_46 : decode cX4_nestlings 46 = .ok (.i2l, 1) := by decide +kernel
theorem dX4_nestlings_47 : decode cX4_nestlings 47 = .ok (.lconst 0, 1) := by decide +kernel
theorem dX4_nestlings_48 : decode cX4_nestlings 48 = .ok (.lconst 1, 1) := by decide +kernel
theorem dX4_nestlings_49 : decode cX4_nestlings 49 = .ok (.invokestatic 58, 3) := by decide +kernel
theorem dX4_nestlings_52 : decode cX4_nestlings 52 = .ok (.ifCond .ne 6, 3) := by decide +kernel
theorem dX4_nestlings_55 : decode cX4_nestlings 55 = .ok (.bipush (-102), 2) := by decide +kernel
theorem dX4_nestlings_57 : decode cX4_nestlings 57 = .ok (.ireturn, 1) := by decide +kernel
theorem dX4_nestlings_58 : decode cX4_nestlings 58 = .ok (.aload_n 0, 1) := by decide +kernel
theorem dX4_nestlings_59 : decode cX4_nestlings 59 = .ok (.invokevirtual 129, 3) := by decide +kernel
theorem dX4_nestlings_62 : decode cX4_nestlings 62 = .ok (.iconst 0, 1) := by decide +kernel
theorem dX4_nestlings_63 : decode cX4_nestlings 63 = .ok (.istore 6, 2) := by decide +kernel
theorem dX4_nestlings_65 : decode cX4_nestlings 65 = .ok (.iconst 0, 1) := by decide +kernel
theorem dX4_nestlings_66 : decode cX4_nestlings 66 = .ok (.istore 7, 2) := by decide +kernel
theorem dX4_nestlings_68 : decode cX4_nestlings 68 = .ok (.iconst 0, 1) := by decide +kernel
theorem dX4_nestlings_69 : decode cX4_nestlings 69 = .ok (.istore 8, 2) := by decide +kernel
theorem dX4_nestlings_71 : decode cX4_nestlings 71 = .ok (.iload 8, 2) := by decide +kernel
theorem dX4_nestlings_73 : decode cX4_nestlings 73 = .ok (.iconst 1, 1) := by decide +kernel
theorem dX4_nestlings_74 : decode cX4_nestlings 74 = .ok (.aload_n 0, 1) := by decide +kernel
theorem dX4_nestlings_75 : decode cX4_nestlings 75 = .ok (.getfield 88, 3) := by decide +kernel
theorem dX4_nestlings_78 : decode cX4_nestlings 78 = .ok (.ishl, 1) := by decide +kernel
theorem dX4_nestlings_79 : decode cX4_nestlings 79 = .ok (.if_icmp .ge 134, 3) := by decide +kernel
theorem dX4_nestlings_82 : decode cX4_nestlings 82 = .ok (.iload 8, 2) := by decide +kernel
theorem dX4_nestlings_84 : decode cX4_nestlings 84 = .ok (.iload_n 1, 1) := by decide +kernel
theorem dX4_nestlings_85 : decode cX4_nestlings 85 = .ok (.iconst (-1), 1) := by decide +kernel
theorem dX4_nestlings_86 : decode cX4_nestlings 86 = .ok (.ixor, 1) := by decide +kernel
theorem dX4_nestlings_87 : decode cX4_nestlings 87 = .ok (.iand, 1) := by decide +kernel
theorem dX4_nestlings_88 : decode cX4_nestlings 88 = .ok (.ifCond .ne 119, 3) := by decide +kernel
theorem dX4_nestlings_91 : decode cX4_nestlings 91 = .ok (.iconst 0, 1) := by decide +kernel
theorem dX4_nestlings_92 : decode cX4_nestlings 92 = .ok (.istore 9, 2) := by decide +kernel
theorem dX4_nestlings_94 : decode cX4_nestlings 94 = .ok (.iload 9, 2) := by decide +kernel
theorem dX4_nestlings_96 : decode cX4_nestlings 96 = .ok (.aload_n 0, 1) := by decide +kernel
theorem dX4_nestlings_97 : decode cX4_nestlings 97 = .ok (.getfield 88, 3) := by decide +kernel
theorem dX4_nestlings_100 : decode cX4_nestlings 100 = .ok (.if_icmp .ge 79, 3) := by decide +kernel
theorem dX4_nestlings_103 : decode cX4_nestlings 103 = .ok (.iload_n 1, 1) := by decide +kernel
theorem dX4_nestlings_104 : decode cX4_nestlings 104 = .ok (.iload 9, 2) := by decide +kernel
theorem dX4_nestlings_106 : decode cX4_nestlings 106 = .ok (.ishr, 1) := by decide +kernel
theorem dX4_nestlings_107 : decode cX4_nestlings 107 = .ok (.iconst 1, 1) := by decide +kernel
theorem dX4_nestlings_108 : decode cX4_nestlings 108 = .ok (.iand, 1) := by decide +kernel
theorem dX4_nestlings_109 : decode cX4_nestlings 109 = .ok (.iconst 1, 1) := by decide +kernel
theorem dX4_nestlings_110 : decode cX4_nestlings 110 = .ok (.if_icmp .ne 7, 3) := by decide +kernel
theorem dX4_nestlings_113 : decode cX4_nestlings 113 = .ok (.iconst 1, 1) := by decide +kernel
theorem dX4_nestlings_114 : decode cX4_nestlings 114 = .ok (.goto 4, 3) := by decide +kernel
theorem dX4_nestlings_117 : decode cX4_nestlings 117 = .ok (.iconst 0, 1) := by decide +kernel
theorem dX4_nestlings_118 : decode cX4_nestlings 118 = .ok (.istore 10, 2) := by decide +kernel
theorem dX4_nestlings_120 : decode cX4_nestlings 120 = .ok (.aload_n 0, 1) := by decide +kernel
theorem dX4_nestlings_121 : decode cX4_nestlings 121 = .ok (.getfield 22, 3) := by decide +kernel
theorem dX4_nestlings_124 : decode cX4_nestlings 124 = .ok (.iload 9, 2) := by decide +kernel
theorem dX4_nestlings_126 : decode cX4_nestlings 126 = .ok (.iload 10, 2) := by decide +kernel
theorem dX4_nestlings_128 : decode cX4_nestlings 128 = .ok (.ifCond .eq 13, 3) := by decide +kernel
theorem dX4_nestlings_131 : decode cX4_nestlings 131 = .ok (.iload 8, 2) := by decide +kernel
theorem dX4_nestlings_133 : decode cX4_nestlings 133 = .ok (.iload 9, 2) := by decide +kernel
theorem dX4_nestlings_135 : decode cX4_nestlings 135 = .ok (.ishr, 1) := by decide +kernel
theorem dX4_nestlings_136 : decode cX4_nestlings 136 = .ok (.iconst 1, 1) := by decide +kernel
theorem dX4_nestlings_137 : decode cX4_nestlings 137 = .ok (.iand, 1) := by decide +kernel
theorem dX4_nestlings_138 : decode cX4_nestlings 138 = .ok (.goto 10, 3) := by decide +kernel
theorem dX4_nestlings_141 : decode cX4_nestlings 141 = .ok (.aload_n 0, 1) := by decide +kernel
theorem dX4_nestlings_142 : decode cX4_nestlings 142 = .ok (.getfield 22, 3) := by decide +kernel
theorem dX4_nestlings_145 : decode cX4_nestlings 145 = .ok (.iload 9, 2) := by decide +kernel
theorem dX4_nestlings_147 : decode cX4_nestlings 147 = .ok (.iaload, 1) := by decide +kernel
theorem dX4_nestlings_148 : decode cX4_nestlings 148 = .ok (.iastore, 1) := by decide +kernel
theorem dX4_nestlings_149 : decode cX4_nestlings 149 = .ok (.aload_n 0, 1) := by decide +kernel
theorem dX4_nestlings_150 : decode cX4_nestlings 150 = .ok (.getfield 25, 3) := by decide +kernel
theorem dX4_nestlings_153 : decode cX4_nestlings 153 = .ok (.iload 9, 2) := by decide +kernel
theorem dX4_nestlings_155 : decode cX4_nestlings 155 = .ok (.iload 10, 2) := by decide +kernel
theorem dX4_nestlings_157 : decode cX4_nestlings 157 = .ok (.ifCond .eq 8, 3) := by decide +kernel
theorem dX4_nestlings_160 : decode cX4_nestlings 160 = .ok (.bipush 7, 2) := by decide +kernel
theorem dX4_nestlings_162 : decode cX4_nestlings 162 = .ok (.goto 10, 3) := by decide +kernel
theorem dX4_nestlings_165 : decode cX4_nestlings 165 = .ok (.aload_n 0, 1) := by decide +kernel
theorem dX4_nestlings_166 : decode cX4_nestlings 166 = .ok (.getfield 25, 3) := by decide +kernel
theorem dX4_nestlings_169 : decode cX4_nestlings 169 = .ok (.iload 9, 2) := by decide +kernel
theorem dX4_nestlings_171 : decode cX4_nestlings 171 = .ok (.iaload, 1) := by decide +kernel
theorem dX4_nestlings_172 : decode cX4_nestlings 172 = .ok (.iastore, 1) := by decide +kernel
theorem dX4_nestlings_173 : decode cX4_nestlings 173 = .ok (.iinc 9 1, 3) := by decide +kernel
theorem dX4_nestlings_176 : decode cX4_nestlings 176 = .ok (.goto (-82), 3) := by decide +kernel
theorem dX4_nestlings_179 : decode cX4_nestlings 179 = .ok (.iload 6, 2) := by decide +kernel
theorem dX4_nestlings_181 : decode cX4_nestlings 181 = .ok (.aload_n 0, 1) := by decide +kernel
theorem dX4_nestlings_182 : decode cX4_nestlings 182 = .ok (.iload_n 2, 1) := by decide +kernel
theorem dX4_nestlings_183 : decode cX4_nestlings 183 = .ok (.iload_n 3, 1) := by decide +kernel
theorem dX4_nestlings_184 : decode cX4_nestlings 184 = .ok (.aload_n 0, 1) := by decide +kernel
theorem dX4_nestlings_185 : decode cX4_nestlings 185 = .ok (.getfield 91, 3) := by decide +kernel
theorem dX4_nestlings_188 : decode cX4_nestlings 188 = .ok (.invokevirtual 132, 3) := by decide +kernel
theorem dX4_nestlings_191 : decode cX4_nestlings 191 = .ok (.iload 4, 2) := by decide +kernel
theorem dX4_nestlings_193 : decode cX4_nestlings 193 = .ok (.if_icmp .ne 7, 3) := by decide +kernel
theorem dX4_nestlings_196 : decode cX4_nestlings 196 = .ok (.iconst 1, 1) := by decide +kernel
theorem dX4_nestlings_197 : decode cX4_nestlings 197 = .ok (.goto 4, 3) := by decide +kernel
theorem dX4_nestlings_200 : decode cX4_nestlings 200 = .ok (.iconst 0, 1) := by decide +kernel
theorem dX4_nestlings_201 : decode cX4_nestlings 201 = .ok (.iadd, 1) := by decide +kernel
theorem dX4_nestlings_202 : decode cX4_nestlings 202 = .ok (.istore 6, 2) := by decide +kernel
theorem dX4_nestlings_204 : decode cX4_nestlings 204 = .ok (.iinc 7 1, 3) := by decide +kernel
theorem dX4_nestlings_207 : decode cX4_nestlings 207 = .ok (.iinc 8 1, 3) := by decide +kernel
theorem dX4_nestlings_210 : decode cX4_nestlings 210 = .ok (.goto (-139), 3) := by decide +kernel
theorem dX4_nestlings_213 : decode cX4_nestlings 213 = .ok (.iload 6, 2) := by decide +kernel
theorem dX4_nestlings_215 : decode cX4_nestlings 215 = .ok (.iload 7, 2) := by decide +kernel
theorem dX4_nestlings_217 : decode cX4_nestlings 217 = .ok (.iload 5, 2) := by decide +kernel
theorem dX4_nestlings_219 : decode cX4_nestlings 219 = .ok (.invokestatic 150, 3) := by decide +kernel
theorem dX4_nestlings_222 : decode cX4_nestlings 222 = .ok (.ireturn, 1) := by decide +kernel
theorem dX4_observe_0 : decode cX4_observe 0 = .ok (.aload_n 0, 1) := by decide +kernel
theorem dX4_observe_1 : decode cX4_observe 1 = .ok (.iload_n 1, 1) := by decide +kernel
theorem dX4_observe_2 : decode cX4_observe 2 = .ok (.invokevirtual 113, 3) := by decide +kernel
theorem dX4_observe_5 : decode cX4_observe 5 = .ok (.ifCond .ne 6, 3) := by decide +kernel
theorem dX4_observe_8 : decode cX4_observe 8 = .ok (.bipush (-101), 2) := by decide +kernel
theorem dX4_observe_10 : decode cX4_observe 10 = .ok (.ireturn, 1) := by decide +kernel
theorem dX4_observe_11 : decode cX4_observe 11 = .ok (.iload_n 2, 1) := by decide +kernel
theorem dX4_observe_12 : decode cX4_observe 12 = .ok (.invokestatic 126, 3) := by decide +kernel
theorem dX4_observe_15 : decode cX4_observe 15 = .ok (.ifCond .eq 10, 3) := by decide +kernel
theorem dX4_observe_18 : decode cX4_observe 18 = .ok (.iload_n 3, 1) := by decide +kernel
theorem dX4_observe_19 : decode cX4_observe 19 = .ok (.invokestatic 126, 3) := by decide +kernel
theorem dX4_observe_22 : decode cX4_observe 22 = .ok (.ifCond .ne 6, 3) := by decide +kernel
theorem dX4_observe_25 : decode cX4_observe 25 = .ok (.bipush (-102), 2) := by decide +kernel
theorem dX4_observe_27 : decode cX4_observe 27 = .ok (.ireturn, 1) := by decide +kernel
theorem dX4_observe_28 : decode cX4_observe 28 = .ok (.aload_n 0, 1) := by decide +kernel
theorem dX4_observe_29 : decode cX4_observe 29 = .ok (.getfield 97, 3) := by decide +kernel
theorem dX4_observe_32 : decode cX4_observe 32 = .ok (.bipush 8, 2) := by decide +kernel
theorem dX4_observe_34 : decode cX4_observe 34 = .ok (.if_icmp .ne 6, 3) := by decide +kernel
theorem dX4_observe_37 : decode cX4_observe 37 = .ok (.bipush (-104), 2) := by decide +kernel
theorem dX4_observe_39 : decode cX4_observe 39 = .ok (.ireturn, 1) := by decide +kernel
theorem dX4_observe_40 : decode cX4_observe 40 = .ok (.aload_n 0, 1) := by decide +kernel
theorem dX4_observe_41 : decode cX4_observe 41 = .ok (.getfield 34, 3) := by decide +kernel
theorem dX4_observe_44 : decode cX4_observe 44 = .ok (.iconst 3, 1) := by decide +kernel
theorem dX4_observe_45 : decode cX4_observe 45 = .ok (.aload_n 0, 1) := by decide +kernel
theorem dX4_observe_46 : decode cX4_observe 46 = .ok (.getfield 97, 3) := by decide +kernel
theorem dX4_observe_49 : decode cX4_observe 49 = .ok (.imul, 1) := by decide +kernel
theorem dX4_observe_50 : decode cX4_observe 50 = .ok (.iload_n 1, 1) := by decide +kernel
theorem dX4_observe_51 : decode cX4_observe 51 = .ok (.iastore, 1) := by decide +kernel
theorem dX4_observe_52 : decode cX4_observe 52 = .ok (.aload_n 0, 1) := by decide +kernel
theorem dX4_observe_53 : decode cX4_observe 53 = .ok (.getfield 34, 3) := by decide +kernel
theorem dX4_observe_56 : decode cX4_observe 56 = .ok (.iconst 3, 1) := by decide +kernel
theorem dX4_observe_57 : decode cX4_observe 57 = .ok (.aload_n 0, 1) := by decide +kernel
theorem dX4_observe_58 : decode cX4_observe 58 = .ok (.getfield 97, 3) := by decide +kernel
theorem dX4_observe_61 : decode cX4_observe 61 = .ok (.imul, 1) := by decide +kernel
theorem dX4_observe_62 : decode cX4_observe 62 = .ok (.iconst 1, 1) := by decide +kernel
theorem dX4_observe_63 : decode cX4_observe 63 = .ok (.iadd, 1) := by decide +kernel
theorem dX4_observe_64 : decode cX4_observe 64 = .ok (.iload_n 2, 1) := by decide +kernel
theorem dX4_observe_65 : decode cX4_observe 65 = .ok (.iastore, 1) := by decide +kernel
theorem dX4_observe_66 : decode cX4_observe 66 = .ok (.aload_n 0, 1) := by decide +kernel
theorem dX4_observe_67 : decode cX4_observe 67 = .ok (.getfield 34, 3) := by decide +kernel
theorem dX4_observe_70 : decode cX4_observe 70 = .ok (.iconst 3, 1) := by decide +kernel
theorem dX4_observe_71 : decode cX4_observe 71 = .ok (.aload_n 0, 1) := by decide +kernel
theorem dX4_observe_72 : decode cX4_observe 72 = .ok (.getfield 97, 3) := by decide +kernel
theorem dX4_observe_75 : decode cX4_observe 75 = .ok (.imul, 1) := by decide +kernel
theorem dX4_observe_76 : decode cX4_observe 76 = .ok (.iconst 2, 1) := by decide +kernel
theorem dX4_observe_77 : decode cX4_observe 77 = .ok (.iadd, 1) := by decide +kernel
theorem dX4_observe_78 : decode cX4_observe 78 = .ok (.iload_n 3, 1) := by decide +kernel
theorem dX4_observe_79 : decode cX4_observe 79 = .ok (.iastore, 1) := by decide +kernel
theorem dX4_observe_80 : decode cX4_observe 80 = .ok (.aload_n 0, 1) := by decide +kernel
theorem dX4_observe_81 : decode cX4_observe 81 = .ok (.dup, 1) := by decide +kernel
theorem dX4_observe_82 : decode cX4_observe 82 = .ok (.getfield 97, 3) := by decide +kernel
theorem dX4_observe_85 : decode cX4_observe 85 = .ok (.iconst 1, 1) := by decide +kernel
theorem dX4_observe_86 : decode cX4_observe 86 = .ok (.iadd, 1) := by decide +kernel
theorem dX4_observe_87 : decode cX4_observe 87 = .ok (.putfield 97, 3) := by decide +kernel
theorem dX4_observe_90 : decode cX4_observe 90 = .ok (.aload_n 0, 1) := by decide +kernel
theorem dX4_observe_91 : decode cX4_observe 91 = .ok (.getfield 97, 3) := by decide +kernel
theorem dX4_observe_94 : decode cX4_observe 94 = .ok (.ireturn, 1) := by decide +kernel
theorem dX4_forget_0 : decode cX4_forget 0 = .ok (.aload_n 0, 1) := by decide +kernel
theorem dX4_forget_1 : decode cX4_forget 1 = .ok (.getfield 97, 3) := by decide +kernel
theorem dX4_forget_4 : decode cX4_forget 4 = .ok (.istore_n 1, 1) := by decide +kernel
theorem dX4_forget_5 : decode cX4_forget 5 = .ok (.aload_n 0, 1) := by decide +kernel
theorem dX4_forget_6 : decode cX4_forget 6 = .ok (.iconst 0, 1) := by decide +kernel
theorem dX4_forget_7 : decode cX4_forget 7 = .ok (.putfield 97, 3) := by decide +kernel
theorem dX4_forget_10 : decode cX4_forget 10 = .ok (.iload_n 1, 1) := by decide +kernel
theorem dX4_forget_11 : decode cX4_forget 11 = .ok (.ireturn, 1) := by decide +kernel
theorem dX4_isSeenBy_0 : decode cX4_isSeenBy 0 = .ok (.aload_n 0, 1) := by decide +kernel
theorem dX4_isSeenBy_1 : decode cX4_isSeenBy 1 = .ok (.getfield 22, 3) := by decide +kernel
theorem dX4_isSeenBy_4 : decode cX4_isSeenBy 4 = .ok (.iload_n 1, 1) := by decide +kernel
theorem dX4_isSeenBy_5 : decode cX4_isSeenBy 5 = .ok (.iload_n 2, 1) := by decide +kernel
theorem dX4_isSeenBy_6 : decode cX4_isSeenBy 6 = .ok (.bipush 8, 2) := by decide +kernel
theorem dX4_isSeenBy_8 : decode cX4_isSeenBy 8 = .ok (.idiv, 1) := by decide +kernel
theorem dX4_isSeenBy_9 : decode cX4_isSeenBy 9 = .ok (.iastore, 1) := by decide +kernel
theorem dX4_isSeenBy_10 : decode cX4_isSeenBy 10 = .ok (.aload_n 0, 1) := by decide +kernel
theorem dX4_isSeenBy_11 : decode cX4_isSeenBy 11 = .ok (.getfield 25, 3) := by decide +kernel
theorem dX4_isSeenBy_14 : decode cX4_isSeenBy 14 = .ok (.iload_n 1, 1) := by decide +kernel
theorem dX4_isSeenBy_15 : decode cX4_isSeenBy 15 = .ok (.iload_n 2, 1) := by decide +kernel
theorem dX4_isSeenBy_16 : decode cX4_isSeenBy 16 = .ok (.bipush 8, 2) := by decide +kernel
theorem dX4_isSeenBy_18 : decode cX4_isSeenBy 18 = .ok (.irem, 1) := by decide +kernel
theorem dX4_isSeenBy_19 : decode cX4_isSeenBy 19 = .ok (.iastore, 1) := by decide +kernel
theorem dX4_isSeenBy_20 : decode cX4_isSeenBy 20 = .ok (.iconst 1, 1) := by decide +kernel
theorem dX4_isSeenBy_21 : decode cX4_isSeenBy 21 = .ok (.istore_n 3, 1) := by decide +kernel
theorem dX4_isSeenBy_22 : decode cX4_isSeenBy 22 = .ok (.iconst 0, 1) := by decide +kernel
theorem dX4_isSeenBy_23 : decode cX4_isSeenBy 23 = .ok (.istore 4, 2) := by decide +kernel
theorem dX4_isSeenBy_25 : decode cX4_isSeenBy 25 = .ok (.iload 4, 2) := by decide +kernel
theorem dX4_isSeenBy_27 : decode cX4_isSeenBy 27 = .ok (.aload_n 0, 1) := by decide +kernel
theorem dX4_isSeenBy_28 : decode cX4_isSeenBy 28 = .ok (.getfield 97, 3) := by decide +kernel
theorem dX4_isSeenBy_31 : decode cX4_isSeenBy 31 = .ok (.if_icmp .ge 61, 3) := by decide +kernel
theorem dX4_isSeenBy_34 : decode cX4_isSeenBy 34 = .ok (.iload_n 3, 1) := by decide +kernel
theorem dX4_isSeenBy_35 : decode cX4_isSeenBy 35 = .ok (.ifCond .eq 49, 3) := by decide +kernel
theorem dX4_isSeenBy_38 : decode cX4_isSeenBy 38 = .ok (.aload_n 0, 1) := by decide +kernel
theorem dX4_isSeenBy_39 : decode cX4_isSeenBy 39 = .ok (.aload_n 0, 1) := by decide +kernel
theorem dX4_isSeenBy_40 : decode cX4_isSeenBy 40 = .ok (.getfield 34, 3) := by decide +kernel
theorem dX4_isSeenBy_43 : decode cX4_isSeenBy 43 = .ok (.iconst 3, 1) := by decide +kernel
theorem dX4_isSeenBy_44 : decode cX4_isSeenBy 44 = .ok (.iload 4, 2) := by decide +kernel
theorem dX4_isSeenBy_46 : decode cX4_isSeenBy 46 = .ok (.imul, 1) := by decide +kernel
theorem dX4_isSeenBy_47 : decode cX4_isSeenBy 47 = .ok (.iaload, 1) := by decide +kernel
theorem dX4_isSeenBy_48 : decode cX4_isSeenBy 48 = .ok (.aload_n 0, 1) := by decide +kernel
theorem dX4_isSeenBy_49 : decode cX4_isSeenBy 49 = .ok (.getfield 34, 3) := by decide +kernel
theorem dX4_isSeenBy_52 : decode cX4_isSeenBy 52 = .ok (.iconst 3, 1) := by decide +kernel
theorem dX4_isSeenBy_53 : decode cX4_isSeenBy 53 = .ok (.iload 4, 2) := by decide +kernel
theorem dX4_isSeenBy_55 : decode cX4_isSeenBy 55 = .ok (.imul, 1) := by decide +kernel
theorem dX4_isSeenBy_56 : decode cX4_isSeenBy 56 = .ok (.iconst 1, 1) := by decide +kernel
theorem dX4_isSeenBy_57 : decode cX4_isSeenBy 57 = .ok (.iadd, 1) := by decide +kernel
theorem dX4_isSeenBy_58 : decode cX4_isSeenBy 58 = .ok (.iaload, 1) := by decide +kernel
theorem dX4_isSeenBy_59 : decode cX4_isSeenBy 59 = .ok (.aload_n 0, 1) := by decide +kernel
theorem dX4_isSeenBy_60 : decode cX4_isSeenBy 60 = .ok (.getfield 91, 3) := by decide +kernel
theorem dX4_isSeenBy_63 : decode cX4_isSeenBy 63 = .ok (.invokevirtual 132, 3) := by decide +kernel
theorem dX4_isSeenBy_66 : decode cX4_isSeenBy 66 = .ok (.aload_n 0, 1) := by decide +kernel
theorem dX4_isSeenBy_67 : decode cX4_isSeenBy 67 = .ok (.getfield 34, 3) := by decide +kernel
theorem dX4_isSeenBy_70 : decode cX4_isSeenBy 70 = .ok (.iconst 3, 1) := by decide +kernel
theorem dX4_isSeenBy_71 : decode cX4_isSeenBy 71 = .ok (.iload 4, 2) := by decide +kernel
theorem dX4_isSeenBy_73 : decode cX4_isSeenBy 73 = .ok (.imul, 1) := by decide +kernel
theorem dX4_isSeenBy_74 : decode cX4_isSeenBy 74 = .ok (.iconst 2, 1) := by decide +kernel
theorem dX4_isSeenBy_75 : decode cX4_isSeenBy 75 = .ok (.iadd, 1) := by decide +kernel
theorem dX4_isSeenBy_76 : decode cX4_isSeenBy 76 = .ok (.iaload, 1) := by decide +kernel
theorem dX4_isSeenBy_77 : decode cX4_isSeenBy 77 = .ok (.if_icmp .ne 7, 3) := by decide +kernel
theorem dX4_isSeenBy_80 : decode cX4_isSeenBy 80 = .ok (.iconst 1, 1) := by decide +kernel
theorem dX4_isSeenBy_81 : decode cX4_isSeenBy 81 = .ok (.goto 4, 3) := by decide +kernel
theorem dX4_isSeenBy_84 : decode cX4_isSeenBy 84 = .ok (.iconst 0, 1) := by decide +kernel
theorem dX4_isSeenBy_85 : decode cX4_isSeenBy 85 = .ok (.istore_n 3, 1) := by decide +kernel
theorem dX4_isSeenBy_86 : decode cX4_isSeenBy 86 = .ok (.iinc 4 1, 3) := by decide +kernel
theorem dX4_isSeenBy_89 : decode cX4_isSeenBy 89 = .ok (.goto (-64), 3) := by decide +kernel
theorem dX4_isSeenBy_92 : decode cX4_isSeenBy 92 = .ok (.iload_n 3, 1) := by decide +kernel
theorem dX4_isSeenBy_93 : decode cX4_isSeenBy 93 = .ok (.ireturn, 1) := by decide +kernel
theorem dX4_guessOf_0 : decode cX4_guessOf 0 = .ok (.aload_n 0, 1) := by decide +kernel
theorem dX4_guessOf_1 : decode cX4_guessOf 1 = .ok (.invokevirtual 129, 3) := by decide +kernel
theorem dX4_guessOf_4 : decode cX4_guessOf 4 = .ok (.iconst 0, 1) := by decide +kernel
theorem dX4_guessOf_5 : decode cX4_guessOf 5 = .ok (.istore_n 3, 1) := by decide +kernel
theorem dX4_guessOf_6 : decode cX4_guessOf 6 = .ok (.iconst (-1), 1) := by decide +kernel
theorem dX4_guessOf_7 : decode cX4_guessOf 7 = .ok (.istore 4, 2) := by decide +kernel
theorem dX4_guessOf_9 : decode cX4_guessOf 9 = .ok (.bipush 39, 2) := by decide +kernel
theorem dX4_guessOf_11 : decode cX4_guessOf 11 = .ok (.istore 5, 2) := by decide +kernel
theorem dX4_guessOf_13 : decode cX4_guessOf 13 = .ok (.iload 5, 2) := by decide +kernel
theorem dX4_guessOf_15 : decode cX4_guessOf 15 = .ok (.ifCond .lt 26, 3) := by decide +kernel
theorem dX4_guessOf_18 : decode cX4_guessOf 18 = .ok (.aload_n 0, 1) := by decide +kernel
theorem dX4_guessOf_19 : decode cX4_guessOf 19 = .ok (.iload_n 1, 1) := by decide +kernel
theorem dX4_guessOf_20 : decode cX4_guessOf 20 = .ok (.iload 5, 2) := by decide +kernel
theorem dX4_guessOf_22 : decode cX4_guessOf 22 = .ok (.invokevirtual 153, 3) := by decide +kernel
theorem dX4_guessOf_25 : decode cX4_guessOf 25 = .ok (.ifCond .eq 10, 3) := by decide +kernel
theorem dX4_guessOf_28 : decode cX4_guessOf 28 = .ok (.iinc 3 1, 3) := by decide +kernel
theorem dX4_guessOf_31 : decode cX4_guessOf 31 = .ok (.iload 5, 2) := by decide +kernel
theorem dX4_guessOf_33 : decode cX4_guessOf 33 = .ok (.istore 4, 2) := by decide +kernel
theorem dX4_guessOf_35 : decode cX4_guessOf 35 = .ok (.iinc 5 (-1), 3) := by decide +kernel
theorem dX4_guessOf_38 : decode cX4_guessOf 38 = .ok (.goto (-25), 3) := by decide +kernel
theorem dX4_guessOf_41 : decode cX4_guessOf 41 = .ok (.iload_n 2, 1) := by decide +kernel
theorem dX4_guessOf_42 : decode cX4_guessOf 42 = .ok (.ifCond .ne 7, 3) := by decide +kernel
theorem dX4_guessOf_45 : decode cX4_guessOf 45 = .ok (.iload_n 3, 1) := by decide +kernel
theorem dX4_guessOf_46 : decode cX4_guessOf 46 = .ok (.goto 5, 3) := by decide +kernel
theorem dX4_guessOf_49 : decode cX4_guessOf 49 = .ok (.iload 4, 2) := by decide +kernel
theorem dX4_guessOf_51 : decode cX4_guessOf 51 = .ok (.ireturn, 1) := by decide +kernel
theorem dX4_guess_0 : decode cX4_guess 0 = .ok (.aload_n 0, 1) := by decide +kernel
theorem dX4_guess_1 : decode cX4_guess 1 = .ok (.iload_n 1, 1) := by decide +kernel
theorem dX4_guess_2 : decode cX4_guess 2 = .ok (.invokevirtual 113, 3) := by decide +kernel
theorem dX4_guess_5 : decode cX4_guess 5 = .ok (.ifCond .ne 6, 3) := by decide +kernel
theorem dX4_guess_8 : decode cX4_guess 8 = .ok (.bipush (-101), 2) := by decide +kernel
theorem dX4_guess_10 : decode cX4_guess 10 = .ok (.ireturn, 1) := by decide +kernel
theorem dX4_guess_11 : decode cX4_guess 11 = .ok (.iload_n 2, 1) := by decide +kernel
theorem dX4_guess_12 : decode cX4_guess 12 = .ok (.i2l, 1) := by decide +kernel
theorem dX4_guess_13 : decode cX4_guess 13 = .ok (.lconst 0, 1) := by decide +kernel
theorem dX4_guess_14 : decode cX4_guess 14 = .ok (.lconst 1, 1) := by decide +kernel
theorem dX4_guess_15 : decode cX4_guess 15 = .ok (.invokestatic 58, 3) := by decide +kernel
theorem dX4_guess_18 : decode cX4_guess 18 = .ok (.ifCond .eq 12, 3) := by decide +kernel
theorem dX4_guess_21 : decode cX4_guess 21 = .ok (.aload_n 0, 1) := by decide +kernel
theorem dX4_guess_22 : decode cX4_guess 22 = .ok (.iload_n 1, 1) := by decide +kernel
theorem dX4_guess_23 : decode cX4_guess 23 = .ok (.iload_n 2, 1) := by decide +kernel
theorem dX4_guess_24 : decode cX4_guess 24 = .ok (.invokevirtual 157, 3) := by decide +kernel
theorem dX4_guess_27 : decode cX4_guess 27 = .ok (.goto 5, 3) := by decide +kernel
theorem dX4_guess_30 : decode cX4_guess 30 = .ok (.bipush (-102), 2) := by decide +kernel
theorem dX4_guess_32 : decode cX4_guess 32 = .ok (.ireturn, 1) := by decide +kernel
theorem dX4_cawOf_0 : decode cX4_cawOf 0 = .ok (.aload_n 0, 1) := by decide +kernel
theorem dX4_cawOf_1 : decode cX4_cawOf 1 = .ok (.invokevirtual 129, 3) := by decide +kernel
theorem dX4_cawOf_4 : decode cX4_cawOf 4 = .ok (.iconst (-1), 1) := by decide +kernel
theorem dX4_cawOf_5 : decode cX4_cawOf 5 = .ok (.istore_n 2, 1) := by decide +kernel
theorem dX4_cawOf_6 : decode cX4_cawOf 6 = .ok (.bipush 41, 2) := by decide +kernel
theorem dX4_cawOf_8 : decode cX4_cawOf 8 = .ok (.istore_n 3, 1) := by decide +kernel
theorem dX4_cawOf_9 : decode cX4_cawOf 9 = .ok (.iconst 0, 1) := by decide +kernel
theorem dX4_cawOf_10 : decode cX4_cawOf 10 = .ok (.istore 4, 2) := by decide +kernel
theorem dX4_cawOf_12 : decode cX4_cawOf 12 = .ok (.iload 4, 2) := by decide +kernel
theorem dX4_cawOf_14 : decode cX4_cawOf 14 = .ok (.bipush 8, 2) := by decide +kernel
theorem dX4_cawOf_16 : decode cX4_cawOf 16 = .ok (.if_icmp .ge 155, 3) := by decide +kernel
theorem dX4_cawOf_19 : decode cX4_cawOf 19 = .ok (.iconst 0, 1) := by decide +kernel
theorem dX4_cawOf_20 : decode cX4_cawOf 20 = .ok (.istore 5, 2) := by decide +kernel
theorem dX4_cawOf_22 : decode cX4_cawOf 22 = .ok (.iload 5, 2) := by decide +kernel
theorem dX4_cawOf_24 : decode cX4_cawOf 24 = .ok (.bipush 8, 2) := by decide +kernel
theorem dX4_cawOf_26 : decode cX4_cawOf 26 = .ok (.if_icmp .ge 17, 3) := by decide +kernel
theorem dX4_cawOf_29 : decode cX4_cawOf 29 = .ok (.aload_n 0, 1) := by decide +kernel
theorem dX4_cawOf_30 : decode cX4_cawOf 30 = .ok (.getfield 37, 3) := by decide +kernel
theorem dX4_cawOf_33 : decode cX4_cawOf 33 = .ok (.iload 5, 2) := by decide +kernel
theorem dX4_cawOf_35 : decode cX4_cawOf 35 = .ok (.iconst 0, 1) := by decide +kernel
theorem dX4_cawOf_36 : decode cX4_cawOf 36 = .ok (.iastore, 1) := by decide +kernel
theorem dX4_cawOf_37 : decode cX4_cawOf 37 = .ok (.iinc 5 1, 3) := by decide +kernel
theorem dX4_cawOf_40 : decode cX4_cawOf 40 = .ok (.goto (-18), 3) := by decide +kernel
theorem dX4_cawOf_43 : decode cX4_cawOf 43 = .ok (.iconst 0, 1) := by decide +kernel
theorem dX4_cawOf_44 : decode cX4_cawOf 44 = .ok (.istore 5, 2) := by decide +kernel
theorem dX4_cawOf_46 : decode cX4_cawOf 46 = .ok (.iload 5, 2) := by decide +kernel
theorem dX4_cawOf_48 : decode cX4_cawOf 48 = .ok (.bipush 40, 2) := by decide +kernel
theorem dX4_cawOf_50 : decode cX4_cawOf 50 = .ok (.if_icmp .ge 39, 3) := by decide +kernel
theorem dX4_cawOf_53 : decode cX4_cawOf 53 = .ok (.aload_n 0, 1) := by decide +kernel
theorem dX4_cawOf_54 : decode cX4_cawOf 54 = .ok (.iload_n 1, 1) := by decide +kernel
theorem dX4_cawOf_55 : decode cX4_cawOf 55 = .ok (.iload 5, 2) := by decide +kernel
theorem dX4_cawOf_57 : decode cX4_cawOf 57 = .ok (.invokevirtual 153, 3) := by decide +kernel
theorem dX4_cawOf_60 : decode cX4_cawOf 60 = .ok (.ifCond .eq 23, 3) := by decide +kernel
theorem dX4_cawOf_63 : decode cX4_cawOf 63 = .ok (.aload_n 0, 1) := by decide +kernel
theorem dX4_cawOf_64 : decode cX4_cawOf 64 = .ok (.getfield 37, 3) := by decide +kernel
theorem dX4_cawOf_67 : decode cX4_cawOf 67 = .ok (.aload_n 0, 1) := by decide +kernel
theorem dX4_cawOf_68 : decode cX4_cawOf 68 = .ok (.iload_n 1, 1) := by decide +kernel
theorem dX4_cawOf_69 : decode cX4_cawOf 69 = .ok (.iload 4, 2) := by decide +kernel
theorem dX4_cawOf_71 : decode cX4_cawOf 71 = .ok (.aload_n 0, 1) := by decide +kernel
theorem dX4_cawOf_72 : decode cX4_cawOf 72 = .ok (.getfield 91, 3) := by decide +kernel
theorem dX4_cawOf_75 : decode cX4_cawOf 75 = .ok (.invokevirtual 132, 3) := by decide +kernel
theorem dX4_cawOf_78 : decode cX4_cawOf 78 = .ok (.dup2, 1) := by decide +kernel
theorem dX4_cawOf_79 : decode cX4_cawOf 79 = .ok (.iaload, 1) := by decide +kernel
theorem dX4_cawOf_80 : decode cX4_cawOf 80 = .ok (.iconst 1, 1) := by decide +kernel
theorem dX4_cawOf_81 : decode cX4_cawOf 81 = .ok (.iadd, 1) := by decide +kernel
theorem dX4_cawOf_82 : decode cX4_cawOf 82 = .ok (.iastore, 1) := by decide +kernel
theorem dX4_cawOf_83 : decode cX4_cawOf 83 = .ok (.iinc 5 1, 3) := by decide +kernel
theorem dX4_cawOf_86 : decode cX4_cawOf 86 = .ok (.goto (-40), 3) := by decide +kernel
theorem dX4_cawOf_89 : decode cX4_cawOf 89 = .ok (.iconst 0, 1) := by decide +kernel
theorem dX4_cawOf_90 : decode cX4_cawOf 90 = .ok (.istore 5, 2) := by decide +kernel
theorem dX4_cawOf_92 : decode cX4_cawOf 92 = .ok (.iconst 0, 1) := by decide +kernel
theorem dX4_cawOf_93 : decode cX4_cawOf 93 = .ok (.istore 6, 2) := by decide +kernel
theorem dX4_cawOf_95 : decode cX4_cawOf 95 = .ok (.iload 6, 2) := by decide +kernel
theorem dX4_cawOf_97 : decode cX4_cawOf 97 = .ok (.bipush 8, 2) := by decide +kernel
theorem dX4_cawOf_99 : decode cX4_cawOf 99 = .ok (.if_icmp .ge 35, 3) := by decide +kernel
theorem dX4_cawOf_102 : decode cX4_cawOf 102 = .ok (.aload_n 0, 1) := by decide +kernel
theorem dX4_cawOf_103 : decode cX4_cawOf 103 = .ok (.getfield 37, 3) := by decide +kernel
theorem dX4_cawOf_106 : decode cX4_cawOf 106 = .ok (.iload 6, 2) := by decide +kernel
theorem dX4_cawOf_108 : decode cX4_cawOf 108 = .ok (.iaload, 1) := by decide +kernel
theorem dX4_cawOf_109 : decode cX4_cawOf 109 = .ok (.iload 5, 2) := by decide +kernel
theorem dX4_cawOf_111 : decode cX4_cawOf 111 = .ok (.if_icmp .le 13, 3) := by decide +kernel
theorem dX4_cawOf_114 : decode cX4_cawOf 114 = .ok (.aload_n 0, 1) := by decide +kernel
theorem dX4_cawOf_115 : decode cX4_cawOf 115 = .ok (.getfield 37, 3) := by decide +kernel
theorem dX4_cawOf_118 : decode cX4_cawOf 118 = .ok (.iload 6, 2) := by decide +kernel
theorem dX4_cawOf_120 : decode cX4_cawOf 120 = .ok (.iaload, 1) := by decide +kernel
theorem dX4_cawOf_121 : decode cX4_cawOf 121 = .ok (.goto 5, 3) := by decide +kernel
theorem dX4_cawOf_124 : decode cX4_cawOf 124 = .ok (.iload 5, 2) := by decide +kernel
theorem dX4_cawOf_126 : decode cX4_cawOf 126 = .ok (.istore 5, 2) := by decide +kernel
theorem dX4_cawOf_128 : decode cX4_cawOf 128 = .ok (.iinc 6 1, 3) := by decide +kernel
theorem dX4_cawOf_131 : decode cX4_cawOf 131 = .ok (.goto (-36), 3) := by decide +kernel
theorem dX4_cawOf_134 : decode cX4_cawOf 134 = .ok (.iload 5, 2) := by decide +kernel
theorem dX4_cawOf_136 : decode cX4_cawOf 136 = .ok (.ifCond .le 14, 3) := by decide +kernel
theorem dX4_cawOf_139 : decode cX4_cawOf 139 = .ok (.iload 5, 2) := by decide +kernel
theorem dX4_cawOf_141 : decode cX4_cawOf 141 = .ok (.iload_n 3, 1) := by decide +kernel
theorem dX4_cawOf_142 : decode cX4_cawOf 142 = .ok (.if_icmp .ge 8, 3) := by decide +kernel
theorem dX4_cawOf_145 : decode cX4_cawOf 145 = .ok (.iload 4, 2) := by decide +kernel
theorem dX4_cawOf_147 : decode cX4_cawOf 147 = .ok (.goto 4, 3) := by decide +kernel
theorem dX4_cawOf_150 : decode cX4_cawOf 150 = .ok (.iload_n 2, 1) := by decide +kernel
theorem dX4_cawOf_151 : decode cX4_cawOf 151 = .ok (.istore_n 2, 1) := by decide +kernel
theorem dX4_cawOf_152 : decode cX4_cawOf 152 = .ok (.iload 5, 2) := by decide +kernel
theorem dX4_cawOf_154 : decode cX4_cawOf 154 = .ok (.iload_n 3, 1) := by decide +kernel
theorem dX4_cawOf_155 : decode cX4_cawOf 155 = .ok (.if_icmp .ge 8, 3) := by decide +kernel
theorem dX4_cawOf_158 : decode cX4_cawOf 158 = .ok (.iload 5, 2) := by decide +kernel
theorem dX4_cawOf_160 : decode cX4_cawOf 160 = .ok (.goto 4, 3) := by decide +kernel
theorem dX4_cawOf_163 : decode cX4_cawOf 163 = .ok (.iload_n 3, 1) := by decide +kernel
theorem dX4_cawOf_164 : decode cX4_cawOf 164 = .ok (.istore_n 3, 1) := by decide +kernel
theorem dX4_cawOf_165 : decode cX4_cawOf 165 = .ok (.iinc 4 1, 3) := by decide +kernel
theorem dX4_cawOf_168 : decode cX4_cawOf 168 = .ok (.goto (-156), 3) := by decide +kernel
theorem dX4_cawOf_171 : decode cX4_cawOf 171 = .ok (.iload_n 2, 1) := by decide +kernel
theorem dX4_cawOf_172 : decode cX4_cawOf 172 = .ok (.ireturn, 1) := by decide +kernel
theorem dX4_caw_0 : decode cX4_caw 0 = .ok (.aload_n 0, 1) := by decide +kernel
theorem dX4_caw_1 : decode cX4_caw 1 = .ok (.iload_n 1, 1) := by decide +kernel
theorem dX4_caw_2 : decode cX4_caw 2 = .ok (.invokevirtual 113, 3) := by decide +kernel
theorem dX4_caw_5 : decode cX4_caw 5 = .ok (.ifCond .eq 11, 3) := by decide +kernel
theorem dX4_caw_8 : decode cX4_caw 8 = .ok (.aload_n 0, 1) := by decide +kernel
theorem dX4_caw_9 : decode cX4_caw 9 = .ok (.iload_n 1, 1) := by decide +kernel
theorem dX4_caw_10 : decode cX4_caw 10 = .ok (.invokevirtual 160, 3) := by decide +kernel
theorem dX4_caw_13 : decode cX4_caw 13 = .ok (.goto 5, 3) := by decide +kernel
theorem dX4_caw_16 : decode cX4_caw 16 = .ok (.bipush (-101), 2) := by decide +kernel
theorem dX4_caw_18 : decode cX4_caw 18 = .ok (.ireturn, 1) := by decide +kernel
theorem dX4_draw_0 : decode cX4_draw 0 = .ok (.aload_n 0, 1) := by decide +kernel
theorem dX4_draw_1 : decode cX4_draw 1 = .ok (.ldc2_w 163, 3) := by decide +kernel
theorem dX4_draw_4 : decode cX4_draw 4 = .ok (.aload_n 0, 1) := by decide +kernel
theorem dX4_draw_5 : decode cX4_draw 5 = .ok (.getfield 165, 3) := by decide +kernel
theorem dX4_draw_8 : decode cX4_draw 8 = .ok (.i2l, 1) := by decide +kernel
theorem dX4_draw_9 : decode cX4_draw 9 = .ok (.lmul, 1) := by decide +kernel
theorem dX4_draw_10 : decode cX4_draw 10 = .ok (.ldc2_w 168, 3) := by decide +kernel
theorem dX4_draw_13 : decode cX4_draw 13 = .ok (.ladd, 1) := by decide +kernel
theorem dX4_draw_14 : decode cX4_draw 14 = .ok (.ldc2_w 170, 3) := by decide +kernel
theorem dX4_draw_17 : decode cX4_draw 17 = .ok (.land, 1) := by decide +kernel
theorem dX4_draw_18 : decode cX4_draw 18 = .ok (.l2i, 1) := by decide +kernel
theorem dX4_draw_19 : decode cX4_draw 19 = .ok (.putfield 165, 3) := by decide +kernel
theorem dX4_draw_22 : decode cX4_draw 22 = .ok (.aload_n 0, 1) := by decide +kernel
theorem dX4_draw_23 : decode cX4_draw 23 = .ok (.getfield 165, 3) := by decide +kernel
theorem dX4_draw_26 : decode cX4_draw 26 = .ok (.ldc 172, 2) := by decide +kernel
theorem dX4_draw_28 : decode cX4_draw 28 = .ok (.idiv, 1) := by decide +kernel
theorem dX4_draw_29 : decode cX4_draw 29 = .ok (.iload_n 1, 1) := by decide +kernel
theorem dX4_draw_30 : decode cX4_draw 30 = .ok (.irem, 1) := by decide +kernel
theorem dX4_draw_31 : decode cX4_draw 31 = .ok (.ireturn, 1) := by decide +kernel
theorem dX4_years_0 : decode cX4_years 0 = .ok (.iload_n 1, 1) := by decide +kernel
theorem dX4_years_1 : decode cX4_years 1 = .ok (.i2l, 1) := by decide +kernel
theorem dX4_years_2 : decode cX4_years 2 = .ok (.lconst 1, 1) := by decide +kernel
theorem dX4_years_3 : decode cX4_years 3 = .ok (.ldc2_w 173, 3) := by decide +kernel
theorem dX4_years_6 : decode cX4_years 6 = .ok (.invokestatic 58, 3) := by decide +kernel
theorem dX4_years_9 : decode cX4_years 9 = .ok (.ifCond .eq 19, 3) := by decide +kernel
theorem dX4_years_12 : decode cX4_years 12 = .ok (.iload_n 2, 1) := by decide +kernel
theorem dX4_years_13 : decode cX4_years 13 = .ok (.ifCond .lt 15, 3) := by decide +kernel
theorem dX4_years_16 : decode cX4_years 16 = .ok (.iload_n 3, 1) := by decide +kernel
theorem dX4_years_17 : decode cX4_years 17 = .ok (.i2l, 1) := by decide +kernel
theorem dX4_years_18 : decode cX4_years 18 = .ok (.lconst 0, 1) := by decide +kernel
theorem dX4_years_19 : decode cX4_years 19 = .ok (.ldc2_w 139, 3) := by decide +kernel
theorem dX4_years_22 : decode cX4_years 22 = .ok (.invokestatic 58, 3) := by decide +kernel
theorem dX4_years_25 : decode cX4_years 25 = .ok (.ifCond .ne 6, 3) := by decide +kernel
theorem dX4_years_28 : decode cX4_years 28 = .ok (.bipush (-102), 2) := by decide +kernel
theorem dX4_years_30 : decode cX4_years 30 = .ok (.ireturn, 1) := by decide +kernel
theorem dX4_years_31 : decode cX4_years 31 = .ok (.aload_n 0, 1) := by decide +kernel
theorem dX4_years_32 : decode cX4_years 32 = .ok (.invokevirtual 122, 3) := by decide +kernel
theorem dX4_years_35 : decode cX4_years 35 = .ok (.ifCond .eq 6, 3) := by decide +kernel
theorem dX4_years_38 : decode cX4_years 38 = .ok (.bipush (-103), 2) := by decide +kernel
theorem dX4_years_40 : decode cX4_years 40 = .ok (.ireturn, 1) := by decide +kernel
theorem dX4_years_41 : decode cX4_years 41 = .ok (.aload_n 0, 1) := by decide +kernel
theorem dX4_years_42 : decode cX4_years 42 = .ok (.invokevirtual 129, 3) := by decide +kernel
theorem dX4_years_45 : decode cX4_years 45 = .ok (.aload_n 0, 1) := by decide +kernel
theorem dX4_years_46 : decode cX4_years 46 = .ok (.iload_n 2, 1) := by decide +kernel
theorem dX4_years_47 : decode cX4_years 47 = .ok (.putfield 165, 3) := by decide +kernel
theorem dX4_years_50 : decode cX4_years 50 = .ok (.aload_n 0, 1) := by decide +kernel
theorem dX4_years_51 : decode cX4_years 51 = .ok (.getfield 91, 3) := by decide +kernel
theorem dX4_years_54 : decode cX4_years 54 = .ok (.istore 4, 2) := by decide +kernel
theorem dX4_years_56 : decode cX4_years 56 = .ok (.iconst 0, 1) := by decide +kernel
theorem dX4_years_57 : decode cX4_years 57 = .ok (.istore 5, 2) := by decide +kernel
theorem dX4_years_59 : decode cX4_years 59 = .ok (.iconst (-1), 1) := by decide +kernel
theorem dX4_years_60 : decode cX4_years 60 = .ok (.istore 6, 2) := by decide +kernel
theorem dX4_years_62 : decode cX4_years 62 = .ok (.iconst 0, 1) := by decide +kernel
theorem dX4_years_63 : decode cX4_years 63 = .ok (.istore 7, 2) := by decide +kernel
theorem dX4_years_65 : decode cX4_years 65 = .ok (.iload 7, 2) := by decide +kernel
theorem dX4_years_67 : decode cX4_years 67 = .ok (.iload_n 1, 1) := by decide +kernel
theorem dX4_years_68 : decode cX4_years 68 = .ok (.if_icmp .ge 62, 3) := by decide +kernel
theorem dX4_years_71 : decode cX4_years 71 = .ok (.aload_n 0, 1) := by decide +kernel
theorem dX4_years_72 : decode cX4_years 72 = .ok (.aload_n 0, 1) := by decide +kernel
theorem dX4_years_73 : decode cX4_years 73 = .ok (.getfield 88, 3) := by decide +kernel
theorem dX4_years_76 : decode cX4_years 76 = .ok (.invokevirtual 175, 3) := by decide +kernel
theorem dX4_years_79 : decode cX4_years 79 = .ok (.istore 8, 2) := by decide +kernel
theorem dX4_years_81 : decode cX4_years 81 = .ok (.aload_n 0, 1) := by decide +kernel
theorem dX4_years_82 : decode cX4_years 82 = .ok (.bipush 8, 2) := by decide +kernel
theorem dX4_years_84 : decode cX4_years 84 = .ok (.invokevirtual 175, 3) := by decide +kernel
theorem dX4_years_87 : decode cX4_years 87 = .ok (.istore 9, 2) := by decide +kernel
theorem dX4_years_89 : decode cX4_years 89 = .ok (.aload_n 0, 1) := by decide +kernel
theorem dX4_years_90 : decode cX4_years 90 = .ok (.iload 8, 2) := by decide +kernel
theorem dX4_years_92 : decode cX4_years 92 = .ok (.iload 9, 2) := by decide +kernel
theorem dX4_years_94 : decode cX4_years 94 = .ok (.iload 4, 2) := by decide +kernel
theorem dX4_years_96 : decode cX4_years 96 = .ok (.invokevirtual 132, 3) := by decide +kernel
theorem dX4_years_99 : decode cX4_years 99 = .ok (.istore 10, 2) := by decide +kernel
theorem dX4_years_101 : decode cX4_years 101 = .ok (.iload 10, 2) := by decide +kernel
theorem dX4_years_103 : decode cX4_years 103 = .ok (.iload 9, 2) := by decide +kernel
theorem dX4_years_105 : decode cX4_years 105 = .ok (.if_icmp .ne 12, 3) := by decide +kernel
theorem dX4_years_108 : decode cX4_years 108 = .ok (.iconst 1, 1) := by decide +kernel
theorem dX4_years_109 : decode cX4_years 109 = .ok (.iload 4, 2) := by decide +kernel
theorem dX4_years_111 : decode cX4_years 111 = .ok (.isub, 1) := by decide +kernel
theorem dX4_years_112 : decode cX4_years 112 = .ok (.istore 4, 2) := by decide +kernel
theorem dX4_years_114 : decode cX4_years 114 = .ok (.goto 10, 3) := by decide +kernel
theorem dX4_years_117 : decode cX4_years 117 = .ok (.iinc 5 1, 3) := by decide +kernel
theorem dX4_years_120 : decode cX4_years 120 = .ok (.iload 10, 2) := by decide +kernel
theorem dX4_years_122 : decode cX4_years 122 = .ok (.istore 6, 2) := by decide +kernel
theorem dX4_years_124 : decode cX4_years 124 = .ok (.iinc 7 1, 3) := by decide +kernel
theorem dX4_years_127 : decode cX4_years 127 = .ok (.goto (-62), 3) := by decide +kernel
theorem dX4_years_130 : decode cX4_years 130 = .ok (.iload_n 3, 1) := by decide +kernel
theorem dX4_years_131 : decode cX4_years 131 = .ok (.ifCond .ne 8, 3) := by decide +kernel
theorem dX4_years_134 : decode cX4_years 134 = .ok (.iload 5, 2) := by decide +kernel
theorem dX4_years_136 : decode cX4_years 136 = .ok (.goto 17, 3) := by decide +kernel
theorem dX4_years_139 : decode cX4_years 139 = .ok (.iload_n 3, 1) := by decide +kernel
theorem dX4_years_140 : decode cX4_years 140 = .ok (.iconst 1, 1) := by decide +kernel
theorem dX4_years_141 : decode cX4_years 141 = .ok (.if_icmp .ne 8, 3) := by decide +kernel
theorem dX4_years_144 : decode cX4_years 144 = .ok (.iload 6, 2) := by decide +kernel
theorem dX4_years_146 : decode cX4_years 146 = .ok (.goto 7, 3) := by decide +kernel
theorem dX4_years_149 : decode cX4_years 149 = .ok (.aload_n 0, 1) := by decide +kernel
theorem dX4_years_150 : decode cX4_years 150 = .ok (.getfield 165, 3) := by decide +kernel
theorem dX4_years_153 : decode cX4_years 153 = .ok (.ireturn, 1) := by decide +kernel
theorem dX4_copy_0 : decode cX4_copy 0 = .ok (.iconst 0, 1) := by decide +kernel
theorem dX4_copy_1 : decode cX4_copy 1 = .ok (.istore_n 2, 1) := by decide +kernel
theorem dX4_copy_2 : decode cX4_copy 2 = .ok (.iload_n 2, 1) := by decide +kernel
theorem dX4_copy_3 : decode cX4_copy 3 = .ok (.aload_n 0, 1) := by decide +kernel
theorem dX4_copy_4 : decode cX4_copy 4 = .ok (.arraylength, 1) := by decide +kernel
theorem dX4_copy_5 : decode cX4_copy 5 = .ok (.if_icmp .ge 15, 3) := by decide +kernel
theorem dX4_copy_8 : decode cX4_copy 8 = .ok (.aload_n 1, 1) := by decide +kernel
theorem dX4_copy_9 : decode cX4_copy 9 = .ok (.iload_n 2, 1) := by decide +kernel
theorem dX4_copy_10 : decode cX4_copy 10 = .ok (.aload_n 0, 1) := by decide +kernel
theorem dX4_copy_11 : decode cX4_copy 11 = .ok (.iload_n 2, 1) := by decide +kernel
theorem dX4_copy_12 : decode cX4_copy 12 = .ok (.iaload, 1) := by decide +kernel
theorem dX4_copy_13 : decode cX4_copy 13 = .ok (.iastore, 1) := by decide +kernel
theorem dX4_copy_14 : decode cX4_copy 14 = .ok (.iinc 2 1, 3) := by decide +kernel
theorem dX4_copy_17 : decode cX4_copy 17 = .ok (.goto (-15), 3) := by decide +kernel
theorem dX4_copy_20 : decode cX4_copy 20 = .ok (.return_, 1) := by decide +kernel
theorem dX4_image_0 : decode cX4_image 0 = .ok (.aload_n 0, 1) := by decide +kernel
theorem dX4_image_1 : decode cX4_image 1 = .ok (.invokevirtual 122, 3) := by decide +kernel
theorem dX4_image_4 : decode cX4_image 4 = .ok (.ifCond .eq 6, 3) := by decide +kernel
theorem dX4_image_7 : decode cX4_image 7 = .ok (.bipush (-103), 2) := by decide +kernel
theorem dX4_image_9 : decode cX4_image 9 = .ok (.ireturn, 1) := by decide +kernel
theorem dX4_image_10 : decode cX4_image 10 = .ok (.aload_n 0, 1) := by decide +kernel
theorem dX4_image_11 : decode cX4_image 11 = .ok (.getfield 16, 3) := by decide +kernel
theorem dX4_image_14 : decode cX4_image 14 = .ok (.aload_n 0, 1) := by decide +kernel
theorem dX4_image_15 : decode cX4_image 15 = .ok (.getfield 40, 3) := by decide +kernel
theorem dX4_image_18 : decode cX4_image 18 = .ok (.invokestatic 178, 3) := by decide +kernel
theorem dX4_image_21 : decode cX4_image 21 = .ok (.aload_n 0, 1) := by decide +kernel
theorem dX4_image_22 : decode cX4_image 22 = .ok (.getfield 19, 3) := by decide +kernel
theorem dX4_image_25 : decode cX4_image 25 = .ok (.aload_n 0, 1) := by decide +kernel
theorem dX4_image_26 : decode cX4_image 26 = .ok (.getfield 43, 3) := by decide +kernel
theorem dX4_image_29 : decode cX4_image 29 = .ok (.invokestatic 178, 3) := by decide +kernel
theorem dX4_image_32 : decode cX4_image 32 = .ok (.aload_n 0, 1) := by decide +kernel
theorem dX4_image_33 : decode cX4_image 33 = .ok (.getfield 34, 3) := by decide +kernel
theorem dX4_image_36 : decode cX4_image 36 = .ok (.aload_n 0, 1) := by decide +kernel
theorem dX4_image_37 : decode cX4_image 37 = .ok (.getfield 46, 3) := by decide +kernel
theorem dX4_image_40 : decode cX4_image 40 = .ok (.invokestatic 178, 3) := by decide +kernel
theorem dX4_image_43 : decode cX4_image 43 = .ok (.aload_n 0, 1) := by decide +kernel
theorem dX4_image_44 : decode cX4_image 44 = .ok (.aload_n 0, 1) := by decide +kernel
theorem dX4_image_45 : decode cX4_image 45 = .ok (.getfield 91, 3) := by decide +kernel
theorem dX4_image_48 : decode cX4_image 48 = .ok (.putfield 182, 3) := by decide +kernel
theorem dX4_image_51 : decode cX4_image 51 = .ok (.aload_n 0, 1) := by decide +kernel
theorem dX4_image_52 : decode cX4_image 52 = .ok (.aload_n 0, 1) := by decide +kernel
theorem dX4_image_53 : decode cX4_image 53 = .ok (.getfield 94, 3) := by decide +kernel
theorem dX4_image_56 : decode cX4_image 56 = .ok (.putfield 185, 3) := by decide +kernel
theorem dX4_image_59 : decode cX4_image 59 = .ok (.aload_n 0, 1) := by decide +kernel
theorem dX4_image_60 : decode cX4_image 60 = .ok (.aload_n 0, 1) := by decide +kernel
theorem dX4_image_61 : decode cX4_image 61 = .ok (.getfield 53, 3) := by decide +kernel
theorem dX4_image_64 : decode cX4_image 64 = .ok (.putfield 188, 3) := by decide +kernel
theorem dX4_image_67 : decode cX4_image 67 = .ok (.aload_n 0, 1) := by decide +kernel
theorem dX4_image_68 : decode cX4_image 68 = .ok (.aload_n 0, 1) := by decide +kernel
theorem dX4_image_69 : decode cX4_image 69 = .ok (.getfield 97, 3) := by decide +kernel
theorem dX4_image_72 : decode cX4_image 72 = .ok (.putfield 191, 3) := by decide +kernel
theorem dX4_image_75 : decode cX4_image 75 = .ok (.aload_n 0, 1) := by decide +kernel
theorem dX4_image_76 : decode cX4_image 76 = .ok (.aload_n 0, 1) := by decide +kernel
theorem dX4_image_77 : decode cX4_image 77 = .ok (.getfield 100, 3) := by decide +kernel
theorem dX4_image_80 : decode cX4_image 80 = .ok (.putfield 49, 3) := by decide +kernel
theorem dX4_image_83 : decode cX4_image 83 = .ok (.aload_n 0, 1) := by decide +kernel
theorem dX4_image_84 : decode cX4_image 84 = .ok (.getfield 94, 3) := by decide +kernel
theorem dX4_image_87 : decode cX4_image 87 = .ok (.ireturn, 1) := by decide +kernel
theorem dX4_restore_0 : decode cX4_restore 0 = .ok (.aload_n 0, 1) := by decide +kernel
theorem dX4_restore_1 : decode cX4_restore 1 = .ok (.getfield 49, 3) := by decide +kernel
theorem dX4_restore_4 : decode cX4_restore 4 = .ok (.aload_n 0, 1) := by decide +kernel
theorem dX4_restore_5 : decode cX4_restore 5 = .ok (.getfield 100, 3) := by decide +kernel
theorem dX4_restore_8 : decode cX4_restore 8 = .ok (.if_icmp .eq 6, 3) := by decide +kernel
theorem dX4_restore_11 : decode cX4_restore 11 = .ok (.bipush (-103), 2) := by decide +kernel
theorem dX4_restore_13 : decode cX4_restore 13 = .ok (.ireturn, 1) := by decide +kernel
theorem dX4_restore_14 : decode cX4_restore 14 = .ok (.aload_n 0, 1) := by decide +kernel
theorem dX4_restore_15 : decode cX4_restore 15 = .ok (.getfield 40, 3) := by decide +kernel
theorem dX4_restore_18 : decode cX4_restore 18 = .ok (.aload_n 0, 1) := by decide +kernel
theorem dX4_restore_19 : decode cX4_restore 19 = .ok (.getfield 16, 3) := by decide +kernel
theorem dX4_restore_22 : decode cX4_restore 22 = .ok (.invokestatic 178, 3) := by decide +kernel
theorem dX4_restore_25 : decode cX4_restore 25 = .ok (.aload_n 0, 1) := by decide +kernel
theorem dX4_restore_26 : decode cX4_restore 26 = .ok (.getfield 43, 3) := by decide +kernel
theorem dX4_restore_29 : decode cX4_restore 29 = .ok (.aload_n 0, 1) := by decide +kernel
theorem dX4_restore_30 : decode cX4_restore 30 = .ok (.getfield 19, 3) := by decide +kernel
theorem dX4_restore_33 : decode cX4_restore 33 = .ok (.invokestatic 178, 3) := by decide +kernel
theorem dX4_restore_36 : decode cX4_restore 36 = .ok (.aload_n 0, 1) := by decide +kernel
theorem dX4_restore_37 : decode cX4_restore 37 = .ok (.getfield 46, 3) := by decide +kernel
theorem dX4_restore_40 : decode cX4_restore 40 = .ok (.aload_n 0, 1) := by decide +kernel
theorem dX4_restore_41 : decode cX4_restore 41 = .ok (.getfield 34, 3) := by decide +kernel
theorem dX4_restore_44 : decode cX4_restore 44 = .ok (.invokestatic 178, 3) := by decide +kernel
theorem dX4_restore_47 : decode cX4_restore 47 = .ok (.aload_n 0, 1) := by decide +kernel
theorem dX4_restore_48 : decode cX4_restore 48 = .ok (.aload_n 0, 1) := by decide +kernel
theorem dX4_restore_49 : decode cX4_restore 49 = .ok (.getfield 182, 3) := by decide +kernel
theorem dX4_restore_52 : decode cX4_restore 52 = .ok (.putfield 91, 3) := by decide +kernel
theorem dX4_restore_55 : decode cX4_restore 55 = .ok (.aload_n 0, 1) := by decide +kernel
theorem dX4_restore_56 : decode cX4_restore 56 = .ok (.aload_n 0, 1) := by decide +kernel
theorem dX4_restore_57 : decode cX4_restore 57 = .ok (.getfield 185, 3) := by decide +kernel
theorem dX4_restore_60 : decode cX4_restore 60 = .ok (.putfield 94, 3) := by decide +kernel
theorem dX4_restore_63 : decode cX4_restore 63 = .ok (.aload_n 0, 1) := by decide +kernel
theorem dX4_restore_64 : decode cX4_restore 64 = .ok (.aload_n 0, 1) := by decide +kernel
theorem dX4_restore_65 : decode cX4_restore 65 = .ok (.getfield 188, 3) := by decide +kernel
theorem dX4_restore_68 : decode cX4_restore 68 = .ok (.putfield 53, 3) := by decide +kernel
theorem dX4_restore_71 : decode cX4_restore 71 = .ok (.aload_n 0, 1) := by decide +kernel
theorem dX4_restore_72 : decode cX4_restore 72 = .ok (.aload_n 0, 1) := by decide +kernel
theorem dX4_restore_73 : decode cX4_restore 73 = .ok (.getfield 191, 3) := by decide +kernel
theorem dX4_restore_76 : decode cX4_restore 76 = .ok (.putfield 97, 3) := by decide +kernel
theorem dX4_restore_79 : decode cX4_restore 79 = .ok (.aload_n 0, 1) := by decide +kernel
theorem dX4_restore_80 : decode cX4_restore 80 = .ok (.getfield 94, 3) := by decide +kernel
theorem dX4_restore_83 : decode cX4_restore 83 = .ok (.ireturn, 1) := by decide +kernel
theorem dX4_countOf_0 : decode cX4_countOf 0 = .ok (.iconst 0, 1) := by decide +kernel
theorem dX4_countOf_1 : decode cX4_countOf 1 = .ok (.istore_n 2, 1) := by decide +kernel
theorem dX4_countOf_2 : decode cX4_countOf 2 = .ok (.iconst 0, 1) := by decide +kernel
theorem dX4_countOf_3 : decode cX4_countOf 3 = .ok (.istore_n 3, 1) := by decide +kernel
theorem dX4_countOf_4 : decode cX4_countOf 4 = .ok (.iload_n 3, 1) := by decide +kernel
theorem dX4_countOf_5 : decode cX4_countOf 5 = .ok (.aload_n 0, 1) := by decide +kernel
theorem dX4_countOf_6 : decode cX4_countOf 6 = .ok (.getfield 88, 3) := by decide +kernel
theorem dX4_countOf_9 : decode cX4_countOf 9 = .ok (.if_icmp .ge 22, 3) := by decide +kernel
theorem dX4_countOf_12 : decode cX4_countOf 12 = .ok (.iload_n 2, 1) := by decide +kernel
theorem dX4_countOf_13 : decode cX4_countOf 13 = .ok (.aload_n 0, 1) := by decide +kernel
theorem dX4_countOf_14 : decode cX4_countOf 14 = .ok (.getfield 16, 3) := by decide +kernel
theorem dX4_countOf_17 : decode cX4_countOf 17 = .ok (.iconst 4, 1) := by decide +kernel
theorem dX4_countOf_18 : decode cX4_countOf 18 = .ok (.iload_n 3, 1) := by decide +kernel
theorem dX4_countOf_19 : decode cX4_countOf 19 = .ok (.imul, 1) := by decide +kernel
theorem dX4_countOf_20 : decode cX4_countOf 20 = .ok (.iconst 3, 1) := by decide +kernel
theorem dX4_countOf_21 : decode cX4_countOf 21 = .ok (.iadd, 1) := by decide +kernel
theorem dX4_countOf_22 : decode cX4_countOf 22 = .ok (.iaload, 1) := by decide +kernel
theorem dX4_countOf_23 : decode cX4_countOf 23 = .ok (.iadd, 1) := by decide +kernel
theorem dX4_countOf_24 : decode cX4_countOf 24 = .ok (.istore_n 2, 1) := by decide +kernel
theorem dX4_countOf_25 : decode cX4_countOf 25 = .ok (.iinc 3 1, 3) := by decide +kernel
theorem dX4_countOf_28 : decode cX4_countOf 28 = .ok (.goto (-24), 3) := by decide +kernel
theorem dX4_countOf_31 : decode cX4_countOf 31 = .ok (.iload_n 1, 1) := by decide +kernel
theorem dX4_countOf_32 : decode cX4_countOf 32 = .ok (.tableswitch 94 0 8 #[52, 57, 62, 67, 72, 74, 79, 84, 89], 52) := by decide +kernel
theorem dX4_countOf_84 : decode cX4_countOf 84 = .ok (.aload_n 0, 1) := by decide +kernel
theorem dX4_countOf_85 : decode cX4_countOf 85 = .ok (.getfield 88, 3) := by decide +kernel
theorem dX4_countOf_88 : decode cX4_countOf 88 = .ok (.ireturn, 1) := by decide +kernel
theorem dX4_countOf_89 : decode cX4_countOf 89 = .ok (.aload_n 0, 1) := by decide +kernel
theorem dX4_countOf_90 : decode cX4_countOf 90 = .ok (.getfield 91, 3) := by decide +kernel
theorem dX4_countOf_93 : decode cX4_countOf 93 = .ok (.ireturn, 1) := by decide +kernel
theorem dX4_countOf_94 : decode cX4_countOf 94 = .ok (.aload_n 0, 1) := by decide +kernel
theorem dX4_countOf_95 : decode cX4_countOf 95 = .ok (.getfield 94, 3) := by decide +kernel
theorem dX4_countOf_98 : decode cX4_countOf 98 = .ok (.ireturn, 1) := by decide +kernel
theorem dX4_countOf_99 : decode cX4_countOf 99 = .ok (.aload_n 0, 1) := by decide +kernel
theorem dX4_countOf_100 : decode cX4_countOf 100 = .ok (.getfield 53, 3) := by decide +kernel
theorem dX4_countOf_103 : decode cX4_countOf 103 = .ok (.ireturn, 1) := by decide +kernel
theorem dX4_countOf_104 : decode cX4_countOf 104 = .ok (.iload_n 2, 1) := by decide +kernel
theorem dX4_countOf_105 : decode cX4_countOf 105 = .ok (.ireturn, 1) := by decide +kernel
theorem dX4_countOf_106 : decode cX4_countOf 106 = .ok (.aload_n 0, 1) := by decide +kernel
theorem dX4_countOf_107 : decode cX4_countOf 107 = .ok (.getfield 97, 3) := by decide +kernel
theorem dX4_countOf_110 : decode cX4_countOf 110 = .ok (.ireturn, 1) := by decide +kernel
theorem dX4_countOf_111 : decode cX4_countOf 111 = .ok (.aload_n 0, 1) := by decide +kernel
theorem dX4_countOf_112 : decode cX4_countOf 112 = .ok (.getfield 62, 3) := by decide +kernel
theorem dX4_countOf_115 : decode cX4_countOf 115 = .ok (.ireturn, 1) := by decide +kernel
theorem dX4_countOf_116 : decode cX4_countOf 116 = .ok (.aload_n 0, 1) := by decide +kernel
theorem dX4_countOf_117 : decode cX4_countOf 117 = .ok (.getfield 100, 3) := by decide +kernel
theorem dX4_countOf_120 : decode cX4_countOf 120 = .ok (.ireturn, 1) := by decide +kernel
theorem dX4_countOf_121 : decode cX4_countOf 121 = .ok (.aload_n 0, 1) := by decide +kernel
theorem dX4_countOf_122 : decode cX4_countOf 122 = .ok (.getfield 141, 3) := by decide +kernel
theorem dX4_countOf_125 : decode cX4_countOf 125 = .ok (.ireturn, 1) := by decide +kernel
theorem dX4_countOf_126 : decode cX4_countOf 126 = .ok (.bipush (-102), 2) := by decide +kernel
theorem dX4_countOf_128 : decode cX4_countOf 128 = .ok (.ireturn, 1) := by decide +kernel
theorem dX4_count_0 : decode cX4_count 0 = .ok (.aload_n 0, 1) := by decide +kernel
theorem dX4_count_1 : decode cX4_count 1 = .ok (.iload_n 1, 1) := by decide +kernel
theorem dX4_count_2 : decode cX4_count 2 = .ok (.invokevirtual 194, 3) := by decide +kernel
theorem dX4_count_5 : decode cX4_count 5 = .ok (.ireturn, 1) := by decide +kernel
theorem dX4_say_0 : decode cX4_say 0 = .ok (.aload_n 0, 1) := by decide +kernel
theorem dX4_say_1 : decode cX4_say 1 = .ok (.ldc2_w 197, 3) := by decide +kernel
theorem dX4_say_4 : decode cX4_say 4 = .ok (.aload_n 0, 1) := by decide +kernel
theorem dX4_say_5 : decode cX4_say 5 = .ok (.getfield 199, 3) := by decide +kernel
theorem dX4_say_8 : decode cX4_say 8 = .ok (.lmul, 1) := by decide +kernel
theorem dX4_say_9 : decode cX4_say 9 = .ok (.lload_n 1, 1) := by decide +kernel
theorem dX4_say_10 : decode cX4_say 10 = .ok (.ladd, 1) := by decide +kernel
theorem dX4_say_11 : decode cX4_say 11 = .ok (.putfield 199, 3) := by decide +kernel
theorem dX4_say_14 : decode cX4_say 14 = .ok (.return_, 1) := by decide +kernel
theorem dX4_saySeat_0 : decode cX4_saySeat 0 = .ok (.aload_n 0, 1) := by decide +kernel
theorem dX4_saySeat_1 : decode cX4_saySeat 1 = .ok (.aload_n 0, 1) := by decide +kernel
theorem dX4_saySeat_2 : decode cX4_saySeat 2 = .ok (.getfield 19, 3) := by decide +kernel
theorem dX4_saySeat_5 : decode cX4_saySeat 5 = .ok (.iload_n 1, 1) := by decide +kernel
theorem dX4_saySeat_6 : decode cX4_saySeat 6 = .ok (.iaload, 1) := by decide +kernel
theorem dX4_saySeat_7 : decode cX4_saySeat 7 = .ok (.i2l, 1) := by decide +kernel
theorem dX4_saySeat_8 : decode cX4_saySeat 8 = .ok (.invokevirtual 203, 3) := by decide +kernel
theorem dX4_saySeat_11 : decode cX4_saySeat 11 = .ok (.aload_n 0, 1) := by decide +kernel
theorem dX4_saySeat_12 : decode cX4_saySeat 12 = .ok (.invokevirtual 129, 3) := by decide +kernel
theorem dX4_saySeat_15 : decode cX4_saySeat 15 = .ok (.aload_n 0, 1) := by decide +kernel
theorem dX4_saySeat_16 : decode cX4_saySeat 16 = .ok (.aload_n 0, 1) := by decide +kernel
theorem dX4_saySeat_17 : decode cX4_saySeat 17 = .ok (.iload_n 1, 1) := by decide +kernel
theorem dX4_saySeat_18 : decode cX4_saySeat 18 = .ok (.iconst 0, 1) := by decide +kernel
theorem dX4_saySeat_19 : decode cX4_saySeat 19 = .ok (.aload_n 0, 1) := by decide +kernel
theorem dX4_saySeat_20 : decode cX4_saySeat 20 = .ok (.getfield 91, 3) := by decide +kernel
theorem dX4_saySeat_23 : decode cX4_saySeat 23 = .ok (.invokevirtual 132, 3) := by decide +kernel
theorem dX4_saySeat_26 : decode cX4_saySeat 26 = .ok (.i2l, 1) := by decide +kernel
theorem dX4_saySeat_27 : decode cX4_saySeat 27 = .ok (.invokevirtual 203, 3) := by decide +kernel
theorem dX4_saySeat_30 : decode cX4_saySeat 30 = .ok (.aload_n 0, 1) := by decide +kernel
theorem dX4_saySeat_31 : decode cX4_saySeat 31 = .ok (.aload_n 0, 1) := by decide +kernel
theorem dX4_saySeat_32 : decode cX4_saySeat 32 = .ok (.iload_n 1, 1) := by decide +kernel
theorem dX4_saySeat_33 : decode cX4_saySeat 33 = .ok (.iconst 5, 1) := by decide +kernel
theorem dX4_saySeat_34 : decode cX4_saySeat 34 = .ok (.aload_n 0, 1) := by decide +kernel
theorem dX4_saySeat_35 : decode cX4_saySeat 35 = .ok (.getfield 91, 3) := by decide +kernel
theorem dX4_saySeat_38 : decode cX4_saySeat 38 = .ok (.invokevirtual 132, 3) := by decide +kernel
theorem dX4_saySeat_41 : decode cX4_saySeat 41 = .ok (.i2l, 1) := by decide +kernel
theorem dX4_saySeat_42 : decode cX4_saySeat 42 = .ok (.invokevirtual 203, 3) := by decide +kernel
theorem dX4_saySeat_45 : decode cX4_saySeat 45 = .ok (.aload_n 0, 1) := by decide +kernel
theorem dX4_saySeat_46 : decode cX4_saySeat 46 = .ok (.aload_n 0, 1) := by decide +kernel
theorem dX4_saySeat_47 : decode cX4_saySeat 47 = .ok (.iload_n 1, 1) := by decide +kernel
theorem dX4_saySeat_48 : decode cX4_saySeat 48 = .ok (.iconst 0, 1) := by decide +kernel
theorem dX4_saySeat_49 : decode cX4_saySeat 49 = .ok (.invokevirtual 157, 3) := by decide +kernel
theorem dX4_saySeat_52 : decode cX4_saySeat 52 = .ok (.i2l, 1) := by decide +kernel
theorem dX4_saySeat_53 : decode cX4_saySeat 53 = .ok (.invokevirtual 203, 3) := by decide +kernel
theorem dX4_saySeat_56 : decode cX4_saySeat 56 = .ok (.aload_n 0, 1) := by decide +kernel
theorem dX4_saySeat_57 : decode cX4_saySeat 57 = .ok (.aload_n 0, 1) := by decide +kernel
theorem dX4_saySeat_58 : decode cX4_saySeat 58 = .ok (.iload_n 1, 1) := by decide +kernel
theorem dX4_saySeat_59 : decode cX4_saySeat 59 = .ok (.iconst 1, 1) := by decide +kernel
theorem dX4_saySeat_60 : decode cX4_saySeat 60 = .ok (.invokevirtual 157, 3) := by decide +kernel
theorem dX4_saySeat_63 : decode cX4_saySeat 63 = .ok (.i2l, 1) := by decide +kernel
theorem dX4_saySeat_64 : decode cX4_saySeat 64 = .ok (.invokevirtual 203, 3) := by decide +kernel
theorem dX4_saySeat_67 : decode cX4_saySeat 67 = .ok (.aload_n 0, 1) := by decide +kernel
theorem dX4_saySeat_68 : decode cX4_saySeat 68 = .ok (.aload_n 0, 1) := by decide +kernel
theorem dX4_saySeat_69 : decode cX4_saySeat 69 = .ok (.iload_n 1, 1) := by decide +kernel
theorem dX4_saySeat_70 : decode cX4_saySeat 70 = .ok (.invokevirtual 160, 3) := by decide +kernel
theorem dX4_saySeat_73 : decode cX4_saySeat 73 = .ok (.i2l, 1) := by decide +kernel
theorem dX4_saySeat_74 : decode cX4_saySeat 74 = .ok (.invokevirtual 203, 3) := by decide +kernel
theorem dX4_saySeat_77 : decode cX4_saySeat 77 = .ok (.return_, 1) := by decide +kernel
theorem dX4_digest_0 : decode cX4_digest 0 = .ok (.aload_n 0, 1) := by decide +kernel
theorem dX4_digest_1 : decode cX4_digest 1 = .ok (.ldc2_w 207, 3) := by decide +kernel
theorem dX4_digest_4 : decode cX4_digest 4 = .ok (.putfield 199, 3) := by decide +kernel
theorem dX4_digest_7 : decode cX4_digest 7 = .ok (.iconst 0, 1) := by decide +kernel
theorem dX4_digest_8 : decode cX4_digest 8 = .ok (.istore_n 1, 1) := by decide +kernel
theorem dX4_digest_9 : decode cX4_digest 9 = .ok (.iload_n 1, 1) := by decide +kernel
theorem dX4_digest_10 : decode cX4_digest 10 = .ok (.aload_n 0, 1) := by decide +kernel
theorem dX4_digest_11 : decode cX4_digest 11 = .ok (.getfield 88, 3) := by decide +kernel
theorem dX4_digest_14 : decode cX4_digest 14 = .ok (.if_icmp .ge 45, 3) := by decide +kernel
theorem dX4_digest_17 : decode cX4_digest 17 = .ok (.iconst 0, 1) := by decide +kernel
theorem dX4_digest_18 : decode cX4_digest 18 = .ok (.istore_n 2, 1) := by decide +kernel
theorem dX4_digest_19 : decode cX4_digest 19 = .ok (.iload_n 2, 1) := by decide +kernel
theorem dX4_digest_20 : decode cX4_digest 20 = .ok (.bipush 18, 2) := by decide +kernel
theorem dX4_digest_22 : decode cX4_digest 22 = .ok (.if_icmp .ge 31, 3) := by decide +kernel
theorem dX4_digest_25 : decode cX4_digest 25 = .ok (.iload_n 2, 1) := by decide +kernel
theorem dX4_digest_26 : decode cX4_digest 26 = .ok (.iconst 4, 1) := by decide +kernel
theorem dX4_digest_27 : decode cX4_digest 27 = .ok (.if_icmp .lt 9, 3) := by decide +kernel
theorem dX4_digest_30 : decode cX4_digest 30 = .ok (.iload_n 2, 1) := by decide +kernel
theorem dX4_digest_31 : decode cX4_digest 31 = .ok (.bipush 9, 2) := by decide +kernel
theorem dX4_digest_33 : decode cX4_digest 33 = .ok (.if_icmp .le 14, 3) := by decide +kernel
theorem dX4_digest_36 : decode cX4_digest 36 = .ok (.aload_n 0, 1) := by decide +kernel
theorem dX4_digest_37 : decode cX4_digest 37 = .ok (.aload_n 0, 1) := by decide +kernel
theorem dX4_digest_38 : decode cX4_digest 38 = .ok (.iload_n 1, 1) := by decide +kernel
theorem dX4_digest_39 : decode cX4_digest 39 = .ok (.iload_n 2, 1) := by decide +kernel
theorem dX4_digest_40 : decode cX4_digest 40 = .ok (.invokevirtual 116, 3) := by decide +kernel
theorem dX4_digest_43 : decode cX4_digest 43 = .ok (.i2l, 1) := by decide +kernel
theorem dX4_digest_44 : decode cX4_digest 44 = .ok (.invokevirtual 203, 3) := by decide +kernel
theorem dX4_digest_47 : decode cX4_digest 47 = .ok (.iinc 2 1, 3) := by decide +kernel
theorem dX4_digest_50 : decode cX4_digest 50 = .ok (.goto (-31), 3) := by decide +kernel
theorem dX4_digest_53 : decode cX4_digest 53 = .ok (.iinc 1 1, 3) := by decide +kernel
theorem dX4_digest_56 : decode cX4_digest 56 = .ok (.goto (-47), 3) := by decide +kernel
theorem dX4_digest_59 : decode cX4_digest 59 = .ok (.iconst 0, 1) := by decide +kernel
theorem dX4_digest_60 : decode cX4_digest 60 = .ok (.istore_n 1, 1) := by decide +kernel
theorem dX4_digest_61 : decode cX4_digest 61 = .ok (.iload_n 1, 1) := by decide +kernel
theorem dX4_digest_62 : decode cX4_digest 62 = .ok (.aload_n 0, 1) := by decide +kernel
theorem dX4_digest_63 : decode cX4_digest 63 = .ok (.getfield 88, 3) := by decide +kernel
theorem dX4_digest_66 : decode cX4_digest 66 = .ok (.if_icmp .ge 14, 3) := by decide +kernel
theorem dX4_digest_69 : decode cX4_digest 69 = .ok (.aload_n 0, 1) := by decide +kernel
theorem dX4_digest_70 : decode cX4_digest 70 = .ok (.iload_n 1, 1) := by decide +kernel
theorem dX4_digest_71 : decode cX4_digest 71 = .ok (.invokevirtual 209, 3) := by decide +kernel
theorem dX4_digest_74 : decode cX4_digest 74 = .ok (.iinc 1 1, 3) := by decide +kernel
theorem dX4_digest_77 : decode cX4_digest 77 = .ok (.goto (-16), 3) := by decide +kernel
theorem dX4_digest_80 : decode cX4_digest 80 = .ok (.aload_n 0, 1) := by decide +kernel
theorem dX4_digest_81 : decode cX4_digest 81 = .ok (.invokevirtual 122, 3) := by decide +kernel
theorem dX4_digest_84 : decode cX4_digest 84 = .ok (.ifCond .ne 12, 3) := by decide +kernel
theorem dX4_digest_87 : decode cX4_digest 87 = .ok (.aload_n 0, 1) := by decide +kernel
theorem dX4_digest_88 : decode cX4_digest 88 = .ok (.aload_n 0, 1) := by decide +kernel
theorem dX4_digest_89 : decode cX4_digest 89 = .ok (.invokevirtual 136, 3) := by decide +kernel
theorem dX4_digest_92 : decode cX4_digest 92 = .ok (.i2l, 1) := by decide +kernel
theorem dX4_digest_93 : decode cX4_digest 93 = .ok (.invokevirtual 203, 3) := by decide +kernel
theorem dX4_digest_96 : decode cX4_digest 96 = .ok (.iconst 0, 1) := by decide +kernel
theorem dX4_digest_97 : decode cX4_digest 97 = .ok (.istore_n 1, 1) := by decide +kernel
theorem dX4_digest_98 : decode cX4_digest 98 = .ok (.iload_n 1, 1) := by decide +kernel
theorem dX4_digest_99 : decode cX4_digest 99 = .ok (.aload_n 0, 1) := by decide +kernel
theorem dX4_digest_100 : decode cX4_digest 100 = .ok (.getfield 62, 3) := by decide +kernel
theorem dX4_digest_103 : decode cX4_digest 103 = .ok (.if_icmp .ge 20, 3) := by decide +kernel
theorem dX4_digest_106 : decode cX4_digest 106 = .ok (.aload_n 0, 1) := by decide +kernel
theorem dX4_digest_107 : decode cX4_digest 107 = .ok (.aload_n 0, 1) := by decide +kernel
theorem dX4_digest_108 : decode cX4_digest 108 = .ok (.getfield 7, 3) := by decide +kernel
theorem dX4_digest_111 : decode cX4_digest 111 = .ok (.iload_n 1, 1) := by decide +kernel
theorem dX4_digest_112 : decode cX4_digest 112 = .ok (.iaload, 1) := by decide +kernel
theorem dX4_digest_113 : decode cX4_digest 113 = .ok (.i2l, 1) := by decide +kernel
theorem dX4_digest_114 : decode cX4_digest 114 = .ok (.invokevirtual 203, 3) := by decide +kernel
theorem dX4_digest_117 : decode cX4_digest 117 = .ok (.iinc 1 1, 3) := by decide +kernel
theorem dX4_digest_120 : decode cX4_digest 120 = .ok (.goto (-22), 3) := by decide +kernel
theorem dX4_digest_123 : decode cX4_digest 123 = .ok (.iconst 0, 1) := by decide +kernel
theorem dX4_digest_124 : decode cX4_digest 124 = .ok (.istore_n 1, 1) := by decide +kernel
theorem dX4_digest_125 : decode cX4_digest 125 = .ok (.iload_n 1, 1) := by decide +kernel
theorem dX4_digest_126 : decode cX4_digest 126 = .ok (.bipush 9, 2) := by decide +kernel
theorem dX4_digest_128 : decode cX4_digest 128 = .ok (.if_icmp .ge 19, 3) := by decide +kernel
theorem dX4_digest_131 : decode cX4_digest 131 = .ok (.aload_n 0, 1) := by decide +kernel
theorem dX4_digest_132 : decode cX4_digest 132 = .ok (.aload_n 0, 1) := by decide +kernel
theorem dX4_digest_133 : decode cX4_digest 133 = .ok (.iload_n 1, 1) := by decide +kernel
theorem dX4_digest_134 : decode cX4_digest 134 = .ok (.invokevirtual 194, 3) := by decide +kernel
theorem dX4_digest_137 : decode cX4_digest 137 = .ok (.i2l, 1) := by decide +kernel
theorem dX4_digest_138 : decode cX4_digest 138 = .ok (.invokevirtual 203, 3) := by decide +kernel
theorem dX4_digest_141 : decode cX4_digest 141 = .ok (.iinc 1 1, 3) := by decide +kernel
theorem dX4_digest_144 : decode cX4_digest 144 = .ok (.goto (-19), 3) := by decide +kernel
theorem dX4_digest_147 : decode cX4_digest 147 = .ok (.aload_n 0, 1) := by decide +kernel
theorem dX4_digest_148 : decode cX4_digest 148 = .ok (.getfield 199, 3) := by decide +kernel
theorem dX4_digest_151 : decode cX4_digest 151 = .ok (.lreturn, 1) := by decide +kernel
theorem dJ6_numberOfTrailingZeros_0f7a4_0 : decode cJ6_numberOfTrailingZeros_0f7a4 0 = .ok (.iload_n 0, 1) := by decide +kernel
theorem dJ6_numberOfTrailingZeros_0f7a4_1 : decode cJ6_numberOfTrailingZeros_0f7a4 1 = .ok (.iconst (-1), 1) := by decide +kernel
theorem dJ6_numberOfTrailingZeros_0f7a4_2 : decode cJ6_numberOfTrailingZeros_0f7a4 2 = .ok (.ixor, 1) := by decide +kernel
theorem dJ6_numberOfTrailingZeros_0f7a4_3 : decode cJ6_numberOfTrailingZeros_0f7a4 3 = .ok (.iload_n 0, 1) := by decide +kernel
theorem dJ6_numberOfTrailingZeros_0f7a4_4 : decode cJ6_numberOfTrailingZeros_0f7a4 4 = .ok (.iconst 1, 1) := by decide +kernel
theorem dJ6_numberOfTrailingZeros_0f7a4_5 : decode cJ6_numberOfTrailingZeros_0f7a4 5 = .ok (.isub, 1) := by decide +kernel
theorem dJ6_numberOfTrailingZeros_0f7a4_6 : decode cJ6_numberOfTrailingZeros_0f7a4 6 = .ok (.iand, 1) := by decide +kernel
theorem dJ6_numberOfTrailingZeros_0f7a4_7 : decode cJ6_numberOfTrailingZeros_0f7a4 7 = .ok (.istore_n 0, 1) := by decide +kernel
theorem dJ6_numberOfTrailingZeros_0f7a4_8 : decode cJ6_numberOfTrailingZeros_0f7a4 8 = .ok (.iload_n 0, 1) := by decide +kernel
theorem dJ6_numberOfTrailingZeros_0f7a4_9 : decode cJ6_numberOfTrailingZeros_0f7a4 9 = .ok (.ifCond .gt 8, 3) := by decide +kernel
theorem dJ6_numberOfTrailingZeros_0f7a4_12 : decode cJ6_numberOfTrailingZeros_0f7a4 12 = .ok (.iload_n 0, 1) := by decide +kernel
theorem dJ6_numberOfTrailingZeros_0f7a4_13 : decode cJ6_numberOfTrailingZeros_0f7a4 13 = .ok (.bipush 32, 2) := by decide +kernel
theorem dJ6_numberOfTrailingZeros_0f7a4_15 : decode cJ6_numberOfTrailingZeros_0f7a4 15 = .ok (.iand, 1) := by decide +kernel
theorem dJ6_numberOfTrailingZeros_0f7a4_16 : decode cJ6_numberOfTrailingZeros_0f7a4 16 = .ok (.ireturn, 1) := by decide +kernel
theorem dJ6_numberOfTrailingZeros_0f7a4_17 : decode cJ6_numberOfTrailingZeros_0f7a4 17 = .ok (.iconst 1, 1) := by decide +kernel
theorem dJ6_numberOfTrailingZeros_0f7a4_18 : decode cJ6_numberOfTrailingZeros_0f7a4 18 = .ok (.istore_n 1, 1) := by decide +kernel
theorem dJ6_numberOfTrailingZeros_0f7a4_19 : decode cJ6_numberOfTrailingZeros_0f7a4 19 = .ok (.iload_n 0, 1) := by decide +kernel
theorem dJ6_numberOfTrailingZeros_0f7a4_20 : decode cJ6_numberOfTrailingZeros_0f7a4 20 = .ok (.ldc_w 264, 3) := by decide +kernel
theorem dJ6_numberOfTrailingZeros_0f7a4_23 : decode cJ6_numberOfTrailingZeros_0f7a4 23 = .ok (.if_icmp .le 11, 3) := by decide +kernel
theorem dJ6_numberOfTrailingZeros_0f7a4_26 : decode cJ6_numberOfTrailingZeros_0f7a4 26 = .ok (.iinc 1 16, 3) := by decide +kernel
theorem dJ6_numberOfTrailingZeros_0f7a4_29 : decode cJ6_numberOfTrailingZeros_0f7a4 29 = .ok (.iload_n 0, 1) := by decide +kernel
theorem dJ6_numberOfTrailingZeros_0f7a4_30 : decode cJ6_numberOfTrailingZeros_0f7a4 30 = .ok (.bipush 16, 2) := by decide +kernel
theorem dJ6_numberOfTrailingZeros_0f7a4_32 : decode cJ6_numberOfTrailingZeros_0f7a4 32 = .ok (.iushr, 1) := by decide +kernel
theorem dJ6_numberOfTrailingZeros_0f7a4_33 : decode cJ6_numberOfTrailingZeros_0f7a4 33 = .ok (.istore_n 0, 1) := by decide +kernel
theorem dJ6_numberOfTrailingZeros_0f7a4_34 : decode cJ6_numberOfTrailingZeros_0f7a4 34 = .ok (.iload_n 0, 1) := by decide +kernel
theorem dJ6_numberOfTrailingZeros_0f7a4_35 : decode cJ6_numberOfTrailingZeros_0f7a4 35 = .ok (.sipush 256, 3) := by decide +kernel
theorem dJ6_numberOfTrailingZeros_0f7a4_38 : decode cJ6_numberOfTrailingZeros_0f7a4 38 = .ok (.if_icmp .le 11, 3) := by decide +kernel
theorem dJ6_numberOfTrailingZeros_0f7a4_41 : decode cJ6_numberOfTrailingZeros_0f7a4 41 = .ok (.iinc 1 8, 3) := by decide +kernel
theorem dJ6_numberOfTrailingZeros_0f7a4_44 : decode cJ6_numberOfTrailingZeros_0f7a4 44 = .ok (.iload_n 0, 1) := by decide +kernel
theorem dJ6_numberOfTrailingZeros_0f7a4_45 : decode cJ6_numberOfTrailingZeros_0f7a4 45 = .ok (.bipush 8, 2) := by decide +kernel
theorem dJ6_numberOfTrailingZeros_0f7a4_47 : decode cJ6_numberOfTrailingZeros_0f7a4 47 = .ok (.iushr, 1) := by decide +kernel
theorem dJ6_numberOfTrailingZeros_0f7a4_48 : decode cJ6_numberOfTrailingZeros_0f7a4 48 = .ok (.istore_n 0, 1) := by decide +kernel
theorem dJ6_numberOfTrailingZeros_0f7a4_49 : decode cJ6_numberOfTrailingZeros_0f7a4 49 = .ok (.iload_n 0, 1) := by decide +kernel
theorem dJ6_numberOfTrailingZeros_0f7a4_50 : decode cJ6_numberOfTrailingZeros_0f7a4 50 = .ok (.bipush 16, 2) := by decide +kernel
theorem dJ6_numberOfTrailingZeros_0f7a4_52 : decode cJ6_numberOfTrailingZeros_0f7a4 52 = .ok (.if_icmp .le 10, 3) := by decide +kernel
theorem dJ6_numberOfTrailingZeros_0f7a4_55 : decode cJ6_numberOfTrailingZeros_0f7a4 55 = .ok (.iinc 1 4, 3) := by decide +kernel
theorem dJ6_numberOfTrailingZeros_0f7a4_58 : decode cJ6_numberOfTrailingZeros_0f7a4 58 = .ok (.iload_n 0, 1) := by decide +kernel
theorem dJ6_numberOfTrailingZeros_0f7a4_59 : decode cJ6_numberOfTrailingZeros_0f7a4 59 = .ok (.iconst 4, 1) := by decide +kernel
theorem dJ6_numberOfTrailingZeros_0f7a4_60 : decode cJ6_numberOfTrailingZeros_0f7a4 60 = .ok (.iushr, 1) := by decide +kernel
theorem dJ6_numberOfTrailingZeros_0f7a4_61 : decode cJ6_numberOfTrailingZeros_0f7a4 61 = .ok (.istore_n 0, 1) := by decide +kernel
theorem dJ6_numberOfTrailingZeros_0f7a4_62 : decode cJ6_numberOfTrailingZeros_0f7a4 62 = .ok (.iload_n 0, 1) := by decide +kernel
theorem dJ6_numberOfTrailingZeros_0f7a4_63 : decode cJ6_numberOfTrailingZeros_0f7a4 63 = .ok (.iconst 4, 1) := by decide +kernel
theorem dJ6_numberOfTrailingZeros_0f7a4_64 : decode cJ6_numberOfTrailingZeros_0f7a4 64 = .ok (.if_icmp .le 10, 3) := by decide +kernel
theorem dJ6_numberOfTrailingZeros_0f7a4_67 : decode cJ6_numberOfTrailingZeros_0f7a4 67 = .ok (.iinc 1 2, 3) := by decide +kernel
theorem dJ6_numberOfTrailingZeros_0f7a4_70 : decode cJ6_numberOfTrailingZeros_0f7a4 70 = .ok (.iload_n 0, 1) := by decide +kernel
theorem dJ6_numberOfTrailingZeros_0f7a4_71 : decode cJ6_numberOfTrailingZeros_0f7a4 71 = .ok (.iconst 2, 1) := by decide +kernel
theorem dJ6_numberOfTrailingZeros_0f7a4_72 : decode cJ6_numberOfTrailingZeros_0f7a4 72 = .ok (.iushr, 1) := by decide +kernel
theorem dJ6_numberOfTrailingZeros_0f7a4_73 : decode cJ6_numberOfTrailingZeros_0f7a4 73 = .ok (.istore_n 0, 1) := by decide +kernel
theorem dJ6_numberOfTrailingZeros_0f7a4_74 : decode cJ6_numberOfTrailingZeros_0f7a4 74 = .ok (.iload_n 1, 1) := by decide +kernel
theorem dJ6_numberOfTrailingZeros_0f7a4_75 : decode cJ6_numberOfTrailingZeros_0f7a4 75 = .ok (.iload_n 0, 1) := by decide +kernel
theorem dJ6_numberOfTrailingZeros_0f7a4_76 : decode cJ6_numberOfTrailingZeros_0f7a4 76 = .ok (.iconst 1, 1) := by decide +kernel
theorem dJ6_numberOfTrailingZeros_0f7a4_77 : decode cJ6_numberOfTrailingZeros_0f7a4 77 = .ok (.iushr, 1) := by decide +kernel
theorem dJ6_numberOfTrailingZeros_0f7a4_78 : decode cJ6_numberOfTrailingZeros_0f7a4 78 = .ok (.iadd, 1) := by decide +kernel
theorem dJ6_numberOfTrailingZeros_0f7a4_79 : decode cJ6_numberOfTrailingZeros_0f7a4 79 = .ok (.ireturn, 1) := by decide +kernel
theorem dJ6_bitCount_0f7a4_0 : decode cJ6_bitCount_0f7a4 0 = .ok (.iload_n 0, 1) := by decide +kernel
theorem dJ6_bitCount_0f7a4_1 : decode cJ6_bitCount_0f7a4 1 = .ok (.iload_n 0, 1) := by decide +kernel
theorem dJ6_bitCount_0f7a4_2 : decode cJ6_bitCount_0f7a4 2 = .ok (.iconst 1, 1) := by decide +kernel
theorem dJ6_bitCount_0f7a4_3 : decode cJ6_bitCount_0f7a4 3 = .ok (.iushr, 1) := by decide +kernel
theorem dJ6_bitCount_0f7a4_4 : decode cJ6_bitCount_0f7a4 4 = .ok (.ldc_w 265, 3) := by decide +kernel
theorem dJ6_bitCount_0f7a4_7 : decode cJ6_bitCount_0f7a4 7 = .ok (.iand, 1) := by decide +kernel
theorem dJ6_bitCount_0f7a4_8 : decode cJ6_bitCount_0f7a4 8 = .ok (.isub, 1) := by decide +kernel
theorem dJ6_bitCount_0f7a4_9 : decode cJ6_bitCount_0f7a4 9 = .ok (.istore_n 0, 1) := by decide +kernel
theorem dJ6_bitCount_0f7a4_10 : decode cJ6_bitCount_0f7a4 10 = .ok (.iload_n 0, 1) := by decide +kernel
theorem dJ6_bitCount_0f7a4_11 : decode cJ6_bitCount_0f7a4 11 = .ok (.ldc_w 266, 3) := by decide +kernel
theorem dJ6_bitCount_0f7a4_14 : decode cJ6_bitCount_0f7a4 14 = .ok (.iand, 1) := by decide +kernel
theorem dJ6_bitCount_0f7a4_15 : decode cJ6_bitCount_0f7a4 15 = .ok (.iload_n 0, 1) := by decide +kernel
theorem dJ6_bitCount_0f7a4_16 : decode cJ6_bitCount_0f7a4 16 = .ok (.iconst 2, 1) := by decide +kernel
theorem dJ6_bitCount_0f7a4_17 : decode cJ6_bitCount_0f7a4 17 = .ok (.iushr, 1) := by decide +kernel
theorem dJ6_bitCount_0f7a4_18 : decode cJ6_bitCount_0f7a4 18 = .ok (.ldc_w 266, 3) := by decide +kernel
theorem dJ6_bitCount_0f7a4_21 : decode cJ6_bitCount_0f7a4 21 = .ok (.iand, 1) := by decide +kernel
theorem dJ6_bitCount_0f7a4_22 : decode cJ6_bitCount_0f7a4 22 = .ok (.iadd, 1) := by decide +kernel
theorem dJ6_bitCount_0f7a4_23 : decode cJ6_bitCount_0f7a4 23 = .ok (.istore_n 0, 1) := by decide +kernel
theorem dJ6_bitCount_0f7a4_24 : decode cJ6_bitCount_0f7a4 24 = .ok (.iload_n 0, 1) := by decide +kernel
theorem dJ6_bitCount_0f7a4_25 : decode cJ6_bitCount_0f7a4 25 = .ok (.iload_n 0, 1) := by decide +kernel
theorem dJ6_bitCount_0f7a4_26 : decode cJ6_bitCount_0f7a4 26 = .ok (.iconst 4, 1) := by decide +kernel
theorem dJ6_bitCount_0f7a4_27 : decode cJ6_bitCount_0f7a4 27 = .ok (.iushr, 1) := by decide +kernel
theorem dJ6_bitCount_0f7a4_28 : decode cJ6_bitCount_0f7a4 28 = .ok (.iadd, 1) := by decide +kernel
theorem dJ6_bitCount_0f7a4_29 : decode cJ6_bitCount_0f7a4 29 = .ok (.ldc_w 267, 3) := by decide +kernel
theorem dJ6_bitCount_0f7a4_32 : decode cJ6_bitCount_0f7a4 32 = .ok (.iand, 1) := by decide +kernel
theorem dJ6_bitCount_0f7a4_33 : decode cJ6_bitCount_0f7a4 33 = .ok (.istore_n 0, 1) := by decide +kernel
theorem dJ6_bitCount_0f7a4_34 : decode cJ6_bitCount_0f7a4 34 = .ok (.iload_n 0, 1) := by decide +kernel
theorem dJ6_bitCount_0f7a4_35 : decode cJ6_bitCount_0f7a4 35 = .ok (.iload_n 0, 1) := by decide +kernel
theorem dJ6_bitCount_0f7a4_36 : decode cJ6_bitCount_0f7a4 36 = .ok (.bipush 8, 2) := by decide +kernel
theorem dJ6_bitCount_0f7a4_38 : decode cJ6_bitCount_0f7a4 38 = .ok (.iushr, 1) := by decide +kernel
theorem dJ6_bitCount_0f7a4_39 : decode cJ6_bitCount_0f7a4 39 = .ok (.iadd, 1) := by decide +kernel
theorem dJ6_bitCount_0f7a4_40 : decode cJ6_bitCount_0f7a4 40 = .ok (.istore_n 0, 1) := by decide +kernel
theorem dJ6_bitCount_0f7a4_41 : decode cJ6_bitCount_0f7a4 41 = .ok (.iload_n 0, 1) := by decide +kernel
theorem dJ6_bitCount_0f7a4_42 : decode cJ6_bitCount_0f7a4 42 = .ok (.iload_n 0, 1) := by decide +kernel
theorem dJ6_bitCount_0f7a4_43 : decode cJ6_bitCount_0f7a4 43 = .ok (.bipush 16, 2) := by decide +kernel
theorem dJ6_bitCount_0f7a4_45 : decode cJ6_bitCount_0f7a4 45 = .ok (.iushr, 1) := by decide +kernel
theorem dJ6_bitCount_0f7a4_46 : decode cJ6_bitCount_0f7a4 46 = .ok (.iadd, 1) := by decide +kernel
theorem dJ6_bitCount_0f7a4_47 : decode cJ6_bitCount_0f7a4 47 = .ok (.istore_n 0, 1) := by decide +kernel
theorem dJ6_bitCount_0f7a4_48 : decode cJ6_bitCount_0f7a4 48 = .ok (.iload_n 0, 1) := by decide +kernel
theorem dJ6_bitCount_0f7a4_49 : decode cJ6_bitCount_0f7a4 49 = .ok (.bipush 63, 2) := by decide +kernel
theorem dJ6_bitCount_0f7a4_51 : decode cJ6_bitCount_0f7a4 51 = .ok (.iand, 1) := by decide +kernel
theorem dJ6_bitCount_0f7a4_52 : decode cJ6_bitCount_0f7a4 52 = .ok (.ireturn, 1) := by decide +kernel
theorem dJ13_numberOfTrailingZeros_95d88_0 : decode cJ13_numberOfTrailingZeros_95d88 0 = .ok (.lload_n 0, 1) := by decide +kernel
theorem dJ13_numberOfTrailingZeros_95d88_1 : decode cJ13_numberOfTrailingZeros_95d88 1 = .ok (.l2i, 1) := by decide +kernel
theorem dJ13_numberOfTrailingZeros_95d88_2 : decode cJ13_numberOfTrailingZeros_95d88 2 = .ok (.istore_n 2, 1) := by decide +kernel
theorem dJ13_numberOfTrailingZeros_95d88_3 : decode cJ13_numberOfTrailingZeros_95d88 3 = .ok (.iload_n 2, 1) := by decide +kernel
theorem dJ13_numberOfTrailingZeros_95d88_4 : decode cJ13_numberOfTrailingZeros_95d88 4 = .ok (.ifCond .ne 17, 3) := by decide +kernel
theorem dJ13_numberOfTrailingZeros_95d88_7 : decode cJ13_numberOfTrailingZeros_95d88 7 = .ok (.bipush 32, 2) := by decide +kernel
theorem dJ13_numberOfTrailingZeros_95d88_9 : decode cJ13_numberOfTrailingZeros_95d88 9 = .ok (.lload_n 0, 1) := by decide +kernel
theorem dJ13_numberOfTrailingZeros_95d88_10 : decode cJ13_numberOfTrailingZeros_95d88 10 = .ok (.bipush 32, 2) := by decide +kernel
theorem dJ13_numberOfTrailingZeros_95d88_12 : decode cJ13_numberOfTrailingZeros_95d88 12 = .ok (.lushr, 1) := by decide +kernel
theorem dJ13_numberOfTrailingZeros_95d88_13 : decode cJ13_numberOfTrailingZeros_95d88 13 = .ok (.l2i, 1) := by decide +kernel
theorem dJ13_numberOfTrailingZeros_95d88_14 : decode cJ13_numberOfTrailingZeros_95d88 14 = .ok (.invokestatic 311, 3) := by decide +kernel
theorem dJ13_numberOfTrailingZeros_95d88_17 : decode cJ13_numberOfTrailingZeros_95d88 17 = .ok (.iadd, 1) := by decide +kernel
theorem dJ13_numberOfTrailingZeros_95d88_18 : decode cJ13_numberOfTrailingZeros_95d88 18 = .ok (.goto 7, 3) := by decide +kernel
theorem dJ13_numberOfTrailingZeros_95d88_21 : decode cJ13_numberOfTrailingZeros_95d88 21 = .ok (.iload_n 2, 1) := by decide +kernel
theorem dJ13_numberOfTrailingZeros_95d88_22 : decode cJ13_numberOfTrailingZeros_95d88 22 = .ok (.invokestatic 311, 3) := by decide +kernel
theorem dJ13_numberOfTrailingZeros_95d88_25 : decode cJ13_numberOfTrailingZeros_95d88 25 = .ok (.ireturn, 1) := by decide +kernel
theorem dJ13_bitCount_95d88_0 : decode cJ13_bitCount_95d88 0 = .ok (.lload_n 0, 1) := by decide +kernel
theorem dJ13_bitCount_95d88_1 : decode cJ13_bitCount_95d88 1 = .ok (.lload_n 0, 1) := by decide +kernel
theorem dJ13_bitCount_95d88_2 : decode cJ13_bitCount_95d88 2 = .ok (.iconst 1, 1) := by decide +kernel
theorem dJ13_bitCount_95d88_3 : decode cJ13_bitCount_95d88 3 = .ok (.lushr, 1) := by decide +kernel
theorem dJ13_bitCount_95d88_4 : decode cJ13_bitCount_95d88 4 = .ok (.ldc2_w 314, 3) := by decide +kernel
theorem dJ13_bitCount_95d88_7 : decode cJ13_bitCount_95d88 7 = .ok (.land, 1) := by decide +kernel
theorem dJ13_bitCount_95d88_8 : decode cJ13_bitCount_95d88 8 = .ok (.lsub, 1) := by decide +kernel
theorem dJ13_bitCount_95d88_9 : decode cJ13_bitCount_95d88 9 = .ok (.lstore_n 0, 1) := by decide +kernel
theorem dJ13_bitCount_95d88_10 : decode cJ13_bitCount_95d88 10 = .ok (.lload_n 0, 1) := by decide +kernel
theorem dJ13_bitCount_95d88_11 : decode cJ13_bitCount_95d88 11 = .ok (.ldc2_w 316, 3) := by decide +kernel
theorem dJ13_bitCount_95d88_14 : decode cJ13_bitCount_95d88 14 = .ok (.land, 1) := by decide +kernel
theorem dJ13_bitCount_95d88_15 : decode cJ13_bitCount_95d88 15 = .ok (.lload_n 0, 1) := by decide +kernel
theorem dJ13_bitCount_95d88_16 : decode cJ13_bitCount_95d88 16 = .ok (.iconst 2, 1) := by decide +kernel
theorem dJ13_bitCount_95d88_17 : decode cJ13_bitCount_95d88 17 = .ok (.lushr, 1) := by decide +kernel
theorem dJ13_bitCount_95d88_18 : decode cJ13_bitCount_95d88 18 = .ok (.ldc2_w 316, 3) := by decide +kernel
theorem dJ13_bitCount_95d88_21 : decode cJ13_bitCount_95d88 21 = .ok (.land, 1) := by decide +kernel
theorem dJ13_bitCount_95d88_22 : decode cJ13_bitCount_95d88 22 = .ok (.ladd, 1) := by decide +kernel
theorem dJ13_bitCount_95d88_23 : decode cJ13_bitCount_95d88 23 = .ok (.lstore_n 0, 1) := by decide +kernel
theorem dJ13_bitCount_95d88_24 : decode cJ13_bitCount_95d88 24 = .ok (.lload_n 0, 1) := by decide +kernel
theorem dJ13_bitCount_95d88_25 : decode cJ13_bitCount_95d88 25 = .ok (.lload_n 0, 1) := by decide +kernel
theorem dJ13_bitCount_95d88_26 : decode cJ13_bitCount_95d88 26 = .ok (.iconst 4, 1) := by decide +kernel
theorem dJ13_bitCount_95d88_27 : decode cJ13_bitCount_95d88 27 = .ok (.lushr, 1) := by decide +kernel
theorem dJ13_bitCount_95d88_28 : decode cJ13_bitCount_95d88 28 = .ok (.ladd, 1) := by decide +kernel
theorem dJ13_bitCount_95d88_29 : decode cJ13_bitCount_95d88 29 = .ok (.ldc2_w 318, 3) := by decide +kernel
theorem dJ13_bitCount_95d88_32 : decode cJ13_bitCount_95d88 32 = .ok (.land, 1) := by decide +kernel
theorem dJ13_bitCount_95d88_33 : decode cJ13_bitCount_95d88 33 = .ok (.lstore_n 0, 1) := by decide +kernel
theorem dJ13_bitCount_95d88_34 : decode cJ13_bitCount_95d88 34 = .ok (.lload_n 0, 1) := by decide +kernel
theorem dJ13_bitCount_95d88_35 : decode cJ13_bitCount_95d88 35 = .ok (.lload_n 0, 1) := by decide +kernel
theorem dJ13_bitCount_95d88_36 : decode cJ13_bitCount_95d88 36 = .ok (.bipush 8, 2) := by decide +kernel
theorem dJ13_bitCount_95d88_38 : decode cJ13_bitCount_95d88 38 = .ok (.lushr, 1) := by decide +kernel
theorem dJ13_bitCount_95d88_39 : decode cJ13_bitCount_95d88 39 = .ok (.ladd, 1) := by decide +kernel
theorem dJ13_bitCount_95d88_40 : decode cJ13_bitCount_95d88 40 = .ok (.lstore_n 0, 1) := by decide +kernel
theorem dJ13_bitCount_95d88_41 : decode cJ13_bitCount_95d88 41 = .ok (.lload_n 0, 1) := by decide +kernel
theorem dJ13_bitCount_95d88_42 : decode cJ13_bitCount_95d88 42 = .ok (.lload_n 0, 1) := by decide +kernel
theorem dJ13_bitCount_95d88_43 : decode cJ13_bitCount_95d88 43 = .ok (.bipush 16, 2) := by decide +kernel
theorem dJ13_bitCount_95d88_45 : decode cJ13_bitCount_95d88 45 = .ok (.lushr, 1) := by decide +kernel
theorem dJ13_bitCount_95d88_46 : decode cJ13_bitCount_95d88 46 = .ok (.ladd, 1) := by decide +kernel
theorem dJ13_bitCount_95d88_47 : decode cJ13_bitCount_95d88 47 = .ok (.lstore_n 0, 1) := by decide +kernel
theorem dJ13_bitCount_95d88_48 : decode cJ13_bitCount_95d88 48 = .ok (.lload_n 0, 1) := by decide +kernel
theorem dJ13_bitCount_95d88_49 : decode cJ13_bitCount_95d88 49 = .ok (.lload_n 0, 1) := by decide +kernel
theorem dJ13_bitCount_95d88_50 : decode cJ13_bitCount_95d88 50 = .ok (.bipush 32, 2) := by decide +kernel
theorem dJ13_bitCount_95d88_52 : decode cJ13_bitCount_95d88 52 = .ok (.lushr, 1) := by decide +kernel
theorem dJ13_bitCount_95d88_53 : decode cJ13_bitCount_95d88 53 = .ok (.ladd, 1) := by decide +kernel
theorem dJ13_bitCount_95d88_54 : decode cJ13_bitCount_95d88 54 = .ok (.lstore_n 0, 1) := by decide +kernel
theorem dJ13_bitCount_95d88_55 : decode cJ13_bitCount_95d88 55 = .ok (.lload_n 0, 1) := by decide +kernel
theorem dJ13_bitCount_95d88_56 : decode cJ13_bitCount_95d88 56 = .ok (.l2i, 1) := by decide +kernel
theorem dJ13_bitCount_95d88_57 : decode cJ13_bitCount_95d88 57 = .ok (.bipush 127, 2) := by decide +kernel
theorem dJ13_bitCount_95d88_59 : decode cJ13_bitCount_95d88 59 = .ok (.iand, 1) := by decide +kernel
theorem dJ13_bitCount_95d88_60 : decode cJ13_bitCount_95d88 60 = .ok (.ireturn, 1) := by decide +kernel
theorem dJ9_max_7cf53_0 : decode cJ9_max_7cf53 0 = .ok (.iload_n 0, 1) := by decide +kernel
theorem dJ9_max_7cf53_1 : decode cJ9_max_7cf53 1 = .ok (.iload_n 1, 1) := by decide +kernel
theorem dJ9_max_7cf53_2 : decode cJ9_max_7cf53 2 = .ok (.if_icmp .lt 7, 3) := by decide +kernel
theorem dJ9_max_7cf53_5 : decode cJ9_max_7cf53 5 = .ok (.iload_n 0, 1) := by decide +kernel
theorem dJ9_max_7cf53_6 : decode cJ9_max_7cf53 6 = .ok (.goto 4, 3) := by decide +kernel
theorem dJ9_max_7cf53_9 : decode cJ9_max_7cf53 9 = .ok (.iload_n 1, 1) := by decide +kernel
theorem dJ9_max_7cf53_10 : decode cJ9_max_7cf53 10 = .ok (.ireturn, 1) := by decide +kernel
theorem dJ9_min_7cf53_0 : decode cJ9_min_7cf53 0 = .ok (.iload_n 0, 1) := by decide +kernel
theorem dJ9_min_7cf53_1 : decode cJ9_min_7cf53 1 = .ok (.iload_n 1, 1) := by decide +kernel
theorem dJ9_min_7cf53_2 : decode cJ9_min_7cf53 2 = .ok (.if_icmp .gt 7, 3) := by decide +kernel
theorem dJ9_min_7cf53_5 : decode cJ9_min_7cf53 5 = .ok (.iload_n 0, 1) := by decide +kernel
theorem dJ9_min_7cf53_6 : decode cJ9_min_7cf53 6 = .ok (.goto 4, 3) := by decide +kernel
theorem dJ9_min_7cf53_9 : decode cJ9_min_7cf53 9 = .ok (.iload_n 1, 1) := by decide +kernel
theorem dJ9_min_7cf53_10 : decode cJ9_min_7cf53 10 = .ok (.ireturn, 1) := by decide +kernel
theorem dJ0_length_8abf5_0 : decode cJ0_length_8abf5 0 = .ok (.aload_n 0, 1) := by decide +kernel
theorem dJ0_length_8abf5_1 : decode cJ0_length_8abf5 1 = .ok (.getfield 9, 3) := by decide +kernel
theorem dJ0_length_8abf5_4 : decode cJ0_length_8abf5 4 = .ok (.arraylength, 1) := by decide +kernel
theorem dJ0_length_8abf5_5 : decode cJ0_length_8abf5 5 = .ok (.aload_n 0, 1) := by decide +kernel
theorem dJ0_length_8abf5_6 : decode cJ0_length_8abf5 6 = .ok (.invokevirtual 335, 3) := by decide +kernel
theorem dJ0_length_8abf5_9 : decode cJ0_length_8abf5 9 = .ok (.ishr, 1) := by decide +kernel
theorem dJ0_length_8abf5_10 : decode cJ0_length_8abf5 10 = .ok (.ireturn, 1) := by decide +kernel
theorem dJ0_indexOf_0f7a4_0 : decode cJ0_indexOf_0f7a4 0 = .ok (.aload_n 0, 1) := by decide +kernel
theorem dJ0_indexOf_0f7a4_1 : decode cJ0_indexOf_0f7a4 1 = .ok (.iload_n 1, 1) := by decide +kernel
theorem dJ0_indexOf_0f7a4_2 : decode cJ0_indexOf_0f7a4 2 = .ok (.iconst 0, 1) := by decide +kernel
theorem dJ0_indexOf_0f7a4_3 : decode cJ0_indexOf_0f7a4 3 = .ok (.invokevirtual 633, 3) := by decide +kernel
theorem dJ0_indexOf_0f7a4_6 : decode cJ0_indexOf_0f7a4 6 = .ok (.ireturn, 1) := by decide +kernel
theorem dJ0_indexOf_7cf53_0 : decode cJ0_indexOf_7cf53 0 = .ok (.aload_n 0, 1) := by decide +kernel
theorem dJ0_indexOf_7cf53_1 : decode cJ0_indexOf_7cf53 1 = .ok (.invokevirtual 492, 3) := by decide +kernel
theorem dJ0_indexOf_7cf53_4 : decode cJ0_indexOf_7cf53 4 = .ok (.ifCond .eq 19, 3) := by decide +kernel
theorem dJ0_indexOf_7cf53_7 : decode cJ0_indexOf_7cf53 7 = .ok (.aload_n 0, 1) := by decide +kernel
theorem dJ0_indexOf_7cf53_8 : decode cJ0_indexOf_7cf53 8 = .ok (.getfield 9, 3) := by decide +kernel
theorem dJ0_indexOf_7cf53_11 : decode cJ0_indexOf_7cf53 11 = .ok (.iload_n 1, 1) := by decide +kernel
theorem dJ0_indexOf_7cf53_12 : decode cJ0_indexOf_7cf53 12 = .ok (.iload_n 2, 1) := by decide +kernel
theorem dJ0_indexOf_7cf53_13 : decode cJ0_indexOf_7cf53 13 = .ok (.aload_n 0, 1) := by decide +kernel
theorem dJ0_indexOf_7cf53_14 : decode cJ0_indexOf_7cf53 14 = .ok (.invokevirtual 505, 3) := by decide +kernel
theorem dJ0_indexOf_7cf53_17 : decode cJ0_indexOf_7cf53 17 = .ok (.invokestatic 637, 3) := by decide +kernel
theorem dJ0_indexOf_7cf53_20 : decode cJ0_indexOf_7cf53 20 = .ok (.goto 16, 3) := by decide +kernel
theorem dJ0_indexOf_7cf53_23 : decode cJ0_indexOf_7cf53 23 = .ok (.aload_n 0, 1) := by decide +kernel
theorem dJ0_indexOf_7cf53_24 : decode cJ0_indexOf_7cf53 24 = .ok (.getfield 9, 3) := by decide +kernel
theorem dJ0_indexOf_7cf53_27 : decode cJ0_indexOf_7cf53 27 = .ok (.iload_n 1, 1) := by decide +kernel
theorem dJ0_indexOf_7cf53_28 : decode cJ0_indexOf_7cf53 28 = .ok (.iload_n 2, 1) := by decide +kernel
theorem dJ0_indexOf_7cf53_29 : decode cJ0_indexOf_7cf53 29 = .ok (.aload_n 0, 1) := by decide +kernel
theorem dJ0_indexOf_7cf53_30 : decode cJ0_indexOf_7cf53 30 = .ok (.invokevirtual 505, 3) := by decide +kernel
theorem dJ0_indexOf_7cf53_33 : decode cJ0_indexOf_7cf53 33 = .ok (.invokestatic 640, 3) := by decide +kernel
theorem dJ0_indexOf_7cf53_36 : decode cJ0_indexOf_7cf53 36 = .ok (.ireturn, 1) := by decide +kernel
theorem dJ0_coder_7d493_0 : decode cJ0_coder_7d493 0 = .ok (.getstatic 38, 3) := by decide +kernel
theorem dJ0_coder_7d493_3 : decode cJ0_coder_7d493 3 = .ok (.ifCond .eq 10, 3) := by decide +kernel
theorem dJ0_coder_7d493_6 : decode cJ0_coder_7d493 6 = .ok (.aload_n 0, 1) := by decide +kernel
theorem dJ0_coder_7d493_7 : decode cJ0_coder_7d493 7 = .ok (.getfield 15, 3) := by decide +kernel
theorem dJ0_coder_7d493_10 : decode cJ0_coder_7d493 10 = .ok (.goto 4, 3) := by decide +kernel
theorem dJ0_coder_7d493_13 : decode cJ0_coder_7d493 13 = .ok (.iconst 1, 1) := by decide +kernel
theorem dJ0_coder_7d493_14 : decode cJ0_coder_7d493 14 = .ok (.ireturn, 1) := by decide +kernel
theorem dJ0_isLatin1_aae02_0 : decode cJ0_isLatin1_aae02 0 = .ok (.getstatic 38, 3) := by decide +kernel
theorem dJ0_isLatin1_aae02_3 : decode cJ0_isLatin1_aae02 3 = .ok (.ifCond .eq 14, 3) := by decide +kernel
theorem dJ0_isLatin1_aae02_6 : decode cJ0_isLatin1_aae02 6 = .ok (.aload_n 0, 1) := by decide +kernel
theorem dJ0_isLatin1_aae02_7 : decode cJ0_isLatin1_aae02 7 = .ok (.getfield 15, 3) := by decide +kernel
theorem dJ0_isLatin1_aae02_10 : decode cJ0_isLatin1_aae02 10 = .ok (.ifCond .ne 7, 3) := by decide +kernel
theorem dJ0_isLatin1_aae02_13 : decode cJ0_isLatin1_aae02 13 = .ok (.iconst 1, 1) := by decide +kernel
theorem dJ0_isLatin1_aae02_14 : decode cJ0_isLatin1_aae02 14 = .ok (.goto 4, 3) := by decide +kernel
theorem dJ0_isLatin1_aae02_17 : decode cJ0_isLatin1_aae02 17 = .ok (.iconst 0, 1) := by decide +kernel
theorem dJ0_isLatin1_aae02_18 : decode cJ0_isLatin1_aae02 18 = .ok (.ireturn, 1) := by decide +kernel
theorem dJ1_canEncode_9a6ad_0 : decode cJ1_canEncode_9a6ad 0 = .ok (.iload_n 0, 1) := by decide +kernel
theorem dJ1_canEncode_9a6ad_1 : decode cJ1_canEncode_9a6ad 1 = .ok (.ifCond .lt 14, 3) := by decide +kernel
theorem dJ1_canEncode_9a6ad_4 : decode cJ1_canEncode_9a6ad 4 = .ok (.iload_n 0, 1) := by decide +kernel
theorem dJ1_canEncode_9a6ad_5 : decode cJ1_canEncode_9a6ad 5 = .ok (.sipush 255, 3) := by decide +kernel
theorem dJ1_canEncode_9a6ad_8 : decode cJ1_canEncode_9a6ad 8 = .ok (.if_icmp .gt 7, 3) := by decide +kernel
theorem dJ1_canEncode_9a6ad_11 : decode cJ1_canEncode_9a6ad 11 = .ok (.iconst 1, 1) := by decide +kernel
theorem dJ1_canEncode_9a6ad_12 : decode cJ1_canEncode_9a6ad 12 = .ok (.goto 4, 3) := by decide +kernel
theorem dJ1_canEncode_9a6ad_15 : decode cJ1_canEncode_9a6ad 15 = .ok (.iconst 0, 1) := by decide +kernel
theorem dJ1_canEncode_9a6ad_16 : decode cJ1_canEncode_9a6ad 16 = .ok (.ireturn, 1) := by decide +kernel
theorem dJ1_indexOf_4cfef_0 : decode cJ1_indexOf_4cfef 0 = .ok (.iload_n 1, 1) := by decide +kernel
theorem dJ1_indexOf_4cfef_1 : decode cJ1_indexOf_4cfef 1 = .ok (.invokestatic 88, 3) := by decide +kernel
theorem dJ1_indexOf_4cfef_4 : decode cJ1_indexOf_4cfef 4 = .ok (.ifCond .ne 5, 3) := by decide +kernel
theorem dJ1_indexOf_4cfef_7 : decode cJ1_indexOf_4cfef 7 = .ok (.iconst (-1), 1) := by decide +kernel
theorem dJ1_indexOf_4cfef_8 : decode cJ1_indexOf_4cfef 8 = .ok (.ireturn, 1) := by decide +kernel
theorem dJ1_indexOf_4cfef_9 : decode cJ1_indexOf_4cfef 9 = .ok (.iload_n 2, 1) := by decide +kernel
theorem dJ1_indexOf_4cfef_10 : decode cJ1_indexOf_4cfef 10 = .ok (.iconst 0, 1) := by decide +kernel
theorem dJ1_indexOf_4cfef_11 : decode cJ1_indexOf_4cfef 11 = .ok (.invokestatic 92, 3) := by decide +kernel
theorem dJ1_indexOf_4cfef_14 : decode cJ1_indexOf_4cfef 14 = .ok (.istore_n 2, 1) := by decide +kernel
theorem dJ1_indexOf_4cfef_15 : decode cJ1_indexOf_4cfef 15 = .ok (.iload_n 3, 1) := by decide +kernel
theorem dJ1_indexOf_4cfef_16 : decode cJ1_indexOf_4cfef 16 = .ok (.aload_n 0, 1) := by decide +kernel
theorem dJ1_indexOf_4cfef_17 : decode cJ1_indexOf_4cfef 17 = .ok (.arraylength, 1) := by decide +kernel
theorem dJ1_indexOf_4cfef_18 : decode cJ1_indexOf_4cfef 18 = .ok (.invokestatic 38, 3) := by decide +kernel
theorem dJ1_indexOf_4cfef_21 : decode cJ1_indexOf_4cfef 21 = .ok (.istore_n 3, 1) := by decide +kernel
theorem dJ1_indexOf_4cfef_22 : decode cJ1_indexOf_4cfef 22 = .ok (.iload_n 2, 1) := by decide +kernel
theorem dJ1_indexOf_4cfef_23 : decode cJ1_indexOf_4cfef 23 = .ok (.iload_n 3, 1) := by decide +kernel
theorem dJ1_indexOf_4cfef_24 : decode cJ1_indexOf_4cfef 24 = .ok (.if_icmp .lt 5, 3) := by decide +kernel
theorem dJ1_indexOf_4cfef_27 : decode cJ1_indexOf_4cfef 27 = .ok (.iconst (-1), 1) := by decide +kernel
theorem dJ1_indexOf_4cfef_28 : decode cJ1_indexOf_4cfef 28 = .ok (.ireturn, 1) := by decide +kernel
theorem dJ1_indexOf_4cfef_29 : decode cJ1_indexOf_4cfef 29 = .ok (.aload_n 0, 1) := by decide +kernel
theorem dJ1_indexOf_4cfef_30 : decode cJ1_indexOf_4cfef 30 = .ok (.iload_n 1, 1) := by decide +kernel
theorem dJ1_indexOf_4cfef_31 : decode cJ1_indexOf_4cfef 31 = .ok (.iload_n 2, 1) := by decide +kernel
theorem dJ1_indexOf_4cfef_32 : decode cJ1_indexOf_4cfef 32 = .ok (.iload_n 3, 1) := by decide +kernel
theorem dJ1_indexOf_4cfef_33 : decode cJ1_indexOf_4cfef 33 = .ok (.invokestatic 95, 3) := by decide +kernel
theorem dJ1_indexOf_4cfef_36 : decode cJ1_indexOf_4cfef 36 = .ok (.ireturn, 1) := by decide +kernel
theorem dJ1_indexOfChar_4cfef_0 : decode cJ1_indexOfChar_4cfef 0 = .ok (.iload_n 1, 1) := by decide +kernel
theorem dJ1_indexOfChar_4cfef_1 : decode cJ1_indexOfChar_4cfef 1 = .ok (.i2b, 1) := by decide +kernel
theorem dJ1_indexOfChar_4cfef_2 : decode cJ1_indexOfChar_4cfef 2 = .ok (.istore 4, 2) := by decide +kernel
theorem dJ1_indexOfChar_4cfef_4 : decode cJ1_indexOfChar_4cfef 4 = .ok (.iload_n 2, 1) := by decide +kernel
theorem dJ1_indexOfChar_4cfef_5 : decode cJ1_indexOfChar_4cfef 5 = .ok (.istore 5, 2) := by decide +kernel
theorem dJ1_indexOfChar_4cfef_7 : decode cJ1_indexOfChar_4cfef 7 = .ok (.iload 5, 2) := by decide +kernel
theorem dJ1_indexOfChar_4cfef_9 : decode cJ1_indexOfChar_4cfef 9 = .ok (.iload_n 3, 1) := by decide +kernel
theorem dJ1_indexOfChar_4cfef_10 : decode cJ1_indexOfChar_4cfef 10 = .ok (.if_icmp .ge 21, 3) := by decide +kernel
theorem dJ1_indexOfChar_4cfef_13 : decode cJ1_indexOfChar_4cfef 13 = .ok (.aload_n 0, 1) := by decide +kernel
theorem dJ1_indexOfChar_4cfef_14 : decode cJ1_indexOfChar_4cfef 14 = .ok (.iload 5, 2) := by decide +kernel
theorem dJ1_indexOfChar_4cfef_16 : decode cJ1_indexOfChar_4cfef 16 = .ok (.baload, 1) := by decide +kernel
theorem dJ1_indexOfChar_4cfef_17 : decode cJ1_indexOfChar_4cfef 17 = .ok (.iload 4, 2) := by decide +kernel
theorem dJ1_indexOfChar_4cfef_19 : decode cJ1_indexOfChar_4cfef 19 = .ok (.if_icmp .ne 6, 3) := by decide +kernel
theorem dJ1_indexOfChar_4cfef_22 : decode cJ1_indexOfChar_4cfef 22 = .ok (.iload 5, 2) := by decide +kernel
theorem dJ1_indexOfChar_4cfef_24 : decode cJ1_indexOfChar_4cfef 24 = .ok (.ireturn, 1) := by decide +kernel
theorem dJ1_indexOfChar_4cfef_25 : decode cJ1_indexOfChar_4cfef 25 = .ok (.iinc 5 1, 3) := by decide +kernel
theorem dJ1_indexOfChar_4cfef_28 : decode cJ1_indexOfChar_4cfef 28 = .ok (.goto (-21), 3) := by decide +kernel
theorem dJ1_indexOfChar_4cfef_31 : decode cJ1_indexOfChar_4cfef 31 = .ok (.iconst (-1), 1) := by decide +kernel
theorem dJ1_indexOfChar_4cfef_32 : decode cJ1_indexOfChar_4cfef 32 = .ok (.ireturn, 1) := by decide +kernel
theorem dJ7_fill_53178_0 : decode cJ7_fill_53178 0 = .ok (.iconst 0, 1) := by decide +kernel
theorem dJ7_fill_53178_1 : decode cJ7_fill_53178 1 = .ok (.istore_n 2, 1) := by decide +kernel
theorem dJ7_fill_53178_2 : decode cJ7_fill_53178 2 = .ok (.aload_n 0, 1) := by decide +kernel
theorem dJ7_fill_53178_3 : decode cJ7_fill_53178 3 = .ok (.arraylength, 1) := by decide +kernel
theorem dJ7_fill_53178_4 : decode cJ7_fill_53178 4 = .ok (.istore_n 3, 1) := by decide +kernel
theorem dJ7_fill_53178_5 : decode cJ7_fill_53178 5 = .ok (.iload_n 2, 1) := by decide +kernel
theorem dJ7_fill_53178_6 : decode cJ7_fill_53178 6 = .ok (.iload_n 3, 1) := by decide +kernel
theorem dJ7_fill_53178_7 : decode cJ7_fill_53178 7 = .ok (.if_icmp .ge 13, 3) := by decide +kernel
theorem dJ7_fill_53178_10 : decode cJ7_fill_53178 10 = .ok (.aload_n 0, 1) := by decide +kernel
theorem dJ7_fill_53178_11 : decode cJ7_fill_53178 11 = .ok (.iload_n 2, 1) := by decide +kernel
theorem dJ7_fill_53178_12 : decode cJ7_fill_53178 12 = .ok (.iload_n 1, 1) := by decide +kernel
theorem dJ7_fill_53178_13 : decode cJ7_fill_53178 13 = .ok (.iastore, 1) := by decide +kernel
theorem dJ7_fill_53178_14 : decode cJ7_fill_53178 14 = .ok (.iinc 2 1, 3) := by decide +kernel
theorem dJ7_fill_53178_17 : decode cJ7_fill_53178 17 = .ok (.goto (-12), 3) := by decide +kernel
theorem dJ7_fill_53178_20 : decode cJ7_fill_53178 20 = .ok (.return_, 1) := by decide +kernel
theorem dL_law_0 : decode cL_law 0 = .ok (.new 7, 3) := by decide +kernel
theorem dL_law_3 : decode cL_law 3 = .ok (.dup, 1) := by decide +kernel
theorem dL_law_4 : decode cL_law 4 = .ok (.invokespecial 9, 3) := by decide +kernel
theorem dL_law_7 : decode cL_law 7 = .ok (.astore_n 1, 1) := by decide +kernel
theorem dL_law_8 : decode cL_law 8 = .ok (.new 10, 3) := by decide +kernel
theorem dL_law_11 : decode cL_law 11 = .ok (.dup, 1) := by decide +kernel
theorem dL_law_12 : decode cL_law 12 = .ok (.invokespecial 12, 3) := by decide +kernel
theorem dL_law_15 : decode cL_law 15 = .ok (.astore_n 2, 1) := by decide +kernel
theorem dL_law_16 : decode cL_law 16 = .ok (.iconst 0, 1) := by decide +kernel
theorem dL_law_17 : decode cL_law 17 = .ok (.istore_n 3, 1) := by decide +kernel
theorem dL_law_18 : decode cL_law 18 = .ok (.iload_n 3, 1) := by decide +kernel
theorem dL_law_19 : decode cL_law 19 = .ok (.aload_n 0, 1) := by decide +kernel
theorem dL_law_20 : decode cL_law 20 = .ok (.arraylength, 1) := by decide +kernel
theorem dL_law_21 : decode cL_law 21 = .ok (.bipush 6, 2) := by decide +kernel
theorem dL_law_23 : decode cL_law 23 = .ok (.isub, 1) := by decide +kernel
theorem dL_law_24 : decode cL_law 24 = .ok (.if_icmp .gt 853, 3) := by decide +kernel
theorem dL_law_27 : decode cL_law 27 = .ok (.aload_n 0, 1) := by decide +kernel
theorem dL_law_28 : decode cL_law 28 = .ok (.iload_n 3, 1) := by decide +kernel
theorem dL_law_29 : decode cL_law 29 = .ok (.iaload, 1) := by decide +kernel
theorem dL_law_30 : decode cL_law 30 = .ok (.bipush 31, 2) := by decide +kernel
theorem dL_law_32 : decode cL_law 32 = .ok (.iand, 1) := by decide +kernel
theorem dL_law_33 : decode cL_law 33 = .ok (.tableswitch 838 0 25 #[119, 142, 155, 168, 181, 214, 247, 270, 303, 336, 359, 392, 425, 458, 471, 514, 557, 620, 663, 676, 709, 732, 775, 788, 801, 824], 119) := by decide +kernel
theorem dL_law_152 : decode cL_law 152 = .ok (.aload_n 1, 1) := by decide +kernel
theorem dL_law_153 : decode cL_law 153 = .ok (.aload_n 0, 1) := by decide +kernel
theorem dL_law_154 : decode cL_law 154 = .ok (.iload_n 3, 1) := by decide +kernel
theorem dL_law_155 : decode cL_law 155 = .ok (.iconst 1, 1) := by decide +kernel
theorem dL_law_156 : decode cL_law 156 = .ok (.iadd, 1) := by decide +kernel
theorem dL_law_157 : decode cL_law 157 = .ok (.iaload, 1) := by decide +kernel
theorem dL_law_158 : decode cL_law 158 = .ok (.invokevirtual 13, 3) := by decide +kernel
theorem dL_law_161 : decode cL_law 161 = .ok (.aload_n 2, 1) := by decide +kernel
theorem dL_law_162 : decode cL_law 162 = .ok (.aload_n 0, 1) := by decide +kernel
theorem dL_law_163 : decode cL_law 163 = .ok (.iload_n 3, 1) := by decide +kernel
theorem dL_law_164 : decode cL_law 164 = .ok (.iconst 1, 1) := by decide +kernel
theorem dL_law_165 : decode cL_law 165 = .ok (.iadd, 1) := by decide +kernel
theorem dL_law_166 : decode cL_law 166 = .ok (.iaload, 1) := by decide +kernel
theorem dL_law_167 : decode cL_law 167 = .ok (.invokevirtual 17, 3) := by decide +kernel
theorem dL_law_170 : decode cL_law 170 = .ok (.if_icmp .eq 701, 3) := by decide +kernel
theorem dL_law_173 : decode cL_law 173 = .ok (.iconst 0, 1) := by decide +kernel
theorem dL_law_174 : decode cL_law 174 = .ok (.ireturn, 1) := by decide +kernel
theorem dL_law_175 : decode cL_law 175 = .ok (.aload_n 1, 1) := by decide +kernel
theorem dL_law_176 : decode cL_law 176 = .ok (.invokevirtual 18, 3) := by decide +kernel
theorem dL_law_179 : decode cL_law 179 = .ok (.aload_n 2, 1) := by decide +kernel
theorem dL_law_180 : decode cL_law 180 = .ok (.invokevirtual 22, 3) := by decide +kernel
theorem dL_law_183 : decode cL_law 183 = .ok (.if_icmp .eq 688, 3) := by decide +kernel
theorem dL_law_186 : decode cL_law 186 = .ok (.iconst 0, 1) := by decide +kernel
theorem dL_law_187 : decode cL_law 187 = .ok (.ireturn, 1) := by decide +kernel
theorem dL_law_188 : decode cL_law 188 = .ok (.aload_n 1, 1) := by decide +kernel
theorem dL_law_189 : decode cL_law 189 = .ok (.invokevirtual 23, 3) := by decide +kernel
theorem dL_law_192 : decode cL_law 192 = .ok (.aload_n 2, 1) := by decide +kernel
theorem dL_law_193 : decode cL_law 193 = .ok (.invokevirtual 26, 3) := by decide +kernel
theorem dL_law_196 : decode cL_law 196 = .ok (.if_icmp .eq 675, 3) := by decide +kernel
theorem dL_law_199 : decode cL_law 199 = .ok (.iconst 0, 1) := by decide +kernel
theorem dL_law_200 : decode cL_law 200 = .ok (.ireturn, 1) := by decide +kernel
theorem dL_law_201 : decode cL_law 201 = .ok (.aload_n 1, 1) := by decide +kernel
theorem dL_law_202 : decode cL_law 202 = .ok (.invokevirtual 27, 3) := by decide +kernel
theorem dL_law_205 : decode cL_law 205 = .ok (.aload_n 2, 1) := by decide +kernel
theorem dL_law_206 : decode cL_law 206 = .ok (.invokevirtual 30, 3) := by decide +kernel
theorem dL_law_209 : decode cL_law 209 = .ok (.if_icmp .eq 662, 3) := by decide +kernel
theorem dL_law_212 : decode cL_law 212 = .ok (.iconst 0, 1) := by decide +kernel
theorem dL_law_213 : decode cL_law 213 = .ok (.ireturn, 1) := by decide +kernel
theorem dL_law_214 : decode cL_law 214 = .ok (.aload_n 1, 1) := by decide +kernel
theorem dL_law_215 : decode cL_law 215 = .ok (.aload_n 0, 1) := by decide +kernel
theorem dL_law_216 : decode cL_law 216 = .ok (.iload_n 3, 1) := by decide +kernel
theorem dL_law_217 : decode cL_law 217 = .ok (.iconst 1, 1) := by decide +kernel
theorem dL_law_218 : decode cL_law 218 = .ok (.iadd, 1) := by decide +kernel
theorem dL_law_219 : decode cL_law 219 = .ok (.iaload, 1) := by decide +kernel
theorem dL_law_220 : decode cL_law 220 = .ok (.aload_n 0, 1) := by decide +kernel
theorem dL_law_221 : decode cL_law 221 = .ok (.iload_n 3, 1) := by decide +kernel
theorem dL_law_222 : decode cL_law 222 = .ok (.iconst 2, 1) := by decide +kernel
theorem dL_law_223 : decode cL_law 223 = .ok (.iadd, 1) := by decide +kernel
theorem dL_law_224 : decode cL_law 224 = .ok (.iaload, 1) := by decide +kernel
theorem dL_law_225 : decode cL_law 225 = .ok (.invokevirtual 31, 3) := by decide +kernel
theorem dL_law_228 : decode cL_law 228 = .ok (.aload_n 2, 1) := by decide +kernel
theorem dL_law_229 : decode cL_law 229 = .ok (.aload_n 0, 1) := by decide +kernel
theorem dL_law_230 : decode cL_law 230 = .ok (.iload_n 3, 1) := by decide +kernel
theorem dL_law_231 : decode cL_law 231 = .ok (.iconst 1, 1) := by decide +kernel
theorem dL_law_232 : decode cL_law 232 = .ok (.iadd, 1) := by decide +kernel
theorem dL_law_233 : decode cL_law 233 = .ok (.iaload, 1) := by decide +kernel
theorem dL_law_234 : decode cL_law 234 = .ok (.aload_n 0, 1) := by decide +kernel
theorem dL_law_235 : decode cL_law 235 = .ok (.iload_n 3, 1) := by decide +kernel
theorem dL_law_236 : decode cL_law 236 = .ok (.iconst 2, 1) := by decide +kernel
theorem dL_law_237 : decode cL_law 237 = .ok (.iadd, 1) := by decide +kernel
theorem dL_law_238 : decode cL_law 238 = .ok (.iaload, 1) := by decide +kernel
theorem dL_law_239 : decode cL_law 239 = .ok (.invokevirtual 35, 3) := by decide +kernel
theorem dL_law_242 : decode cL_law 242 = .ok (.if_icmp .eq 629, 3) := by decide +kernel
theorem dL_law_245 : decode cL_law 245 = .ok (.iconst 0, 1) := by decide +kernel
theorem dL_law_246 : decode cL_law 246 = .ok (.ireturn, 1) := by decide +kernel
theorem dL_law_247 : decode cL_law 247 = .ok (.aload_n 1, 1) := by decide +kernel
theorem dL_law_248 : decode cL_law 248 = .ok (.aload_n 0, 1) := by decide +kernel
theorem dL_law_249 : decode cL_law 249 = .ok (.iload_n 3, 1) := by decide +kernel
theorem dL_law_250 : decode cL_law 250 = .ok (.iconst 1, 1) := by decide +kernel
theorem dL_law_251 : decode cL_law 251 = .ok (.iadd, 1) := by decide +kernel
theorem dL_law_252 : decode cL_law 252 = .ok (.iaload, 1) := by decide +kernel
theorem dL_law_253 : decode cL_law 253 = .ok (.aload_n 0, 1) := by decide +kernel
theorem dL_law_254 : decode cL_law 254 = .ok (.iload_n 3, 1) := by decide +kernel
theorem dL_law_255 : decode cL_law 255 = .ok (.iconst 2, 1) := by decide +kernel
theorem dL_law_256 : decode cL_law 256 = .ok (.iadd, 1) := by decide +kernel
theorem dL_law_257 : decode cL_law 257 = .ok (.iaload, 1) := by decide +kernel
theorem dL_law_258 : decode cL_law 258 = .ok (.invokevirtual 36, 3) := by decide +kernel
theorem dL_law_261 : decode cL_law 261 = .ok (.aload_n 2, 1) := by decide +kernel
theorem dL_law_262 : decode cL_law 262 = .ok (.aload_n 0, 1) := by decide +kernel
theorem dL_law_263 : decode cL_law 263 = .ok (.iload_n 3, 1) := by decide +kernel
theorem dL_law_264 : decode cL_law 264 = .ok (.iconst 1, 1) := by decide +kernel
theorem dL_law_265 : decode cL_law 265 = .ok (.iadd, 1) := by decide +kernel
theorem dL_law_266 : decode cL_law 266 = .ok (.iaload, 1) := by decide +kernel
theorem dL_law_267 : decode cL_law 267 = .ok (.aload_n 0, 1) := by decide +kernel
theorem dL_law_268 : decode cL_law 268 = .ok (.iload_n 3, 1) := by decide +kernel
theorem dL_law_269 : decode cL_law 269 = .ok (.iconst 2, 1) := by decide +kernel
theorem dL_law_270 : decode cL_law 270 = .ok (.iadd, 1) := by decide +kernel
theorem dL_law_271 : decode cL_law 271 = .ok (.iaload, 1) := by decide +kernel
theorem dL_law_272 : decode cL_law 272 = .ok (.invokevirtual 39, 3) := by decide +kernel
theorem dL_law_275 : decode cL_law 275 = .ok (.if_icmp .eq 596, 3) := by decide +kernel
theorem dL_law_278 : decode cL_law 278 = .ok (.iconst 0, 1) := by decide +kernel
theorem dL_law_279 : decode cL_law 279 = .ok (.ireturn, 1) := by decide +kernel
theorem dL_law_280 : decode cL_law 280 = .ok (.aload_n 1, 1) := by decide +kernel
theorem dL_law_281 : decode cL_law 281 = .ok (.aload_n 0, 1) := by decide +kernel
theorem dL_law_282 : decode cL_law 282 = .ok (.iload_n 3, 1) := by decide +kernel
theorem dL_law_283 : decode cL_law 283 = .ok (.iconst 1, 1) := by decide +kernel
theorem dL_law_284 : decode cL_law 284 = .ok (.iadd, 1) := by decide +kernel
theorem dL_law_285 : decode cL_law 285 = .ok (.iaload, 1) := by decide +kernel
theorem dL_law_286 : decode cL_law 286 = .ok (.invokevirtual 40, 3) := by decide +kernel
theorem dL_law_289 : decode cL_law 289 = .ok (.aload_n 2, 1) := by decide +kernel
theorem dL_law_290 : decode cL_law 290 = .ok (.aload_n 0, 1) := by decide +kernel
theorem dL_law_291 : decode cL_law 291 = .ok (.iload_n 3, 1) := by decide +kernel
theorem dL_law_292 : decode cL_law 292 = .ok (.iconst 1, 1) := by decide +kernel
theorem dL_law_293 : decode cL_law 293 = .ok (.iadd, 1) := by decide +kernel
theorem dL_law_294 : decode cL_law 294 = .ok (.iaload, 1) := by decide +kernel
theorem dL_law_295 : decode cL_law 295 = .ok (.invokevirtual 43, 3) := by decide +kernel
theorem dL_law_298 : decode cL_law 298 = .ok (.if_icmp .eq 573, 3) := by decide +kernel
theorem dL_law_301 : decode cL_law 301 = .ok (.iconst 0, 1) := by decide +kernel
theorem dL_law_302 : decode cL_law 302 = .ok (.ireturn, 1) := by decide +kernel
theorem dL_law_303 : decode cL_law 303 = .ok (.aload_n 1, 1) := by decide +kernel
theorem dL_law_304 : decode cL_law 304 = .ok (.aload_n 0, 1) := by decide +kernel
theorem dL_law_305 : decode cL_law 305 = .ok (.iload_n 3, 1) := by decide +kernel
theorem dL_law_306 : decode cL_law 306 = .ok (.iconst 1, 1) := by decide +kernel
theorem dL_law_307 : decode cL_law 307 = .ok (.iadd, 1) := by decide +kernel
theorem dL_law_308 : decode cL_law 308 = .ok (.iaload, 1) := by decide +kernel
theorem dL_law_309 : decode cL_law 309 = .ok (.aload_n 0, 1) := by decide +kernel
theorem dL_law_310 : decode cL_law 310 = .ok (.iload_n 3, 1) := by decide +kernel
theorem dL_law_311 : decode cL_law 311 = .ok (.iconst 2, 1) := by decide +kernel
theorem dL_law_312 : decode cL_law 312 = .ok (.iadd, 1) := by decide +kernel
theorem dL_law_313 : decode cL_law 313 = .ok (.iaload, 1) := by decide +kernel
theorem dL_law_314 : decode cL_law 314 = .ok (.invokevirtual 44, 3) := by decide +kernel
theorem dL_law_317 : decode cL_law 317 = .ok (.aload_n 2, 1) := by decide +kernel
theorem dL_law_318 : decode cL_law 318 = .ok (.aload_n 0, 1) := by decide +kernel
theorem dL_law_319 : decode cL_law 319 = .ok (.iload_n 3, 1) := by decide +kernel
theorem dL_law_320 : decode cL_law 320 = .ok (.iconst 1, 1) := by decide +kernel
theorem dL_law_321 : decode cL_law 321 = .ok (.iadd, 1) := by decide +kernel
theorem dL_law_322 : decode cL_law 322 = .ok (.iaload, 1) := by decide +kernel
theorem dL_law_323 : decode cL_law 323 = .ok (.aload_n 0, 1) := by decide +kernel
theorem dL_law_324 : decode cL_law 324 = .ok (.iload_n 3, 1) := by decide +kernel
theorem dL_law_325 : decode cL_law 325 = .ok (.iconst 2, 1) := by decide +kernel
theorem dL_law_326 : decode cL_law 326 = .ok (.iadd, 1) := by decide +kernel
theorem dL_law_327 : decode cL_law 327 = .ok (.iaload, 1) := by decide +kernel
theorem dL_law_328 : decode cL_law 328 = .ok (.invokevirtual 47, 3) := by decide +kernel
theorem dL_law_331 : decode cL_law 331 = .ok (.if_icmp .eq 540, 3) := by decide +kernel
theorem dL_law_334 : decode cL_law 334 = .ok (.iconst 0, 1) := by decide +kernel
theorem dL_law_335 : decode cL_law 335 = .ok (.ireturn, 1) := by decide +kernel
theorem dL_law_336 : decode cL_law 336 = .ok (.aload_n 1, 1) := by decide +kernel
theorem dL_law_337 : decode cL_law 337 = .ok (.aload_n 0, 1) := by decide +kernel
theorem dL_law_338 : decode cL_law 338 = .ok (.iload_n 3, 1) := by decide +kernel
theorem dL_law_339 : decode cL_law 339 = .ok (.iconst 1, 1) := by decide +kernel
theorem dL_law_340 : decode cL_law 340 = .ok (.iadd, 1) := by decide +kernel
theorem dL_law_341 : decode cL_law 341 = .ok (.iaload, 1) := by decide +kernel
theorem dL_law_342 : decode cL_law 342 = .ok (.aload_n 0, 1) := by decide +kernel
theorem dL_law_343 : decode cL_law 343 = .ok (.iload_n 3, 1) := by decide +kernel
theorem dL_law_344 : decode cL_law 344 = .ok (.iconst 2, 1) := by decide +kernel
theorem dL_law_345 : decode cL_law 345 = .ok (.iadd, 1) := by decide +kernel
theorem dL_law_346 : decode cL_law 346 = .ok (.iaload, 1) := by decide +kernel
theorem dL_law_347 : decode cL_law 347 = .ok (.invokevirtual 48, 3) := by decide +kernel
theorem dL_law_350 : decode cL_law 350 = .ok (.aload_n 2, 1) := by decide +kernel
theorem dL_law_351 : decode cL_law 351 = .ok (.aload_n 0, 1) := by decide +kernel
theorem dL_law_352 : decode cL_law 352 = .ok (.iload_n 3, 1) := by decide +kernel
theorem dL_law_353 : decode cL_law 353 = .ok (.iconst 1, 1) := by decide +kernel
theorem dL_law_354 : decode cL_law 354 = .ok (.iadd, 1) := by decide +kernel
theorem dL_law_355 : decode cL_law 355 = .ok (.iaload, 1) := by decide +kernel
theorem dL_law_356 : decode cL_law 356 = .ok (.aload_n 0, 1) := by decide +kernel
theorem dL_law_357 : decode cL_law 357 = .ok (.iload_n 3, 1) := by decide +kernel
theorem dL_law_358 : decode cL_law 358 = .ok (.iconst 2, 1) := by decide +kernel
theorem dL_law_359 : decode cL_law 359 = .ok (.iadd, 1) := by decide +kernel
theorem dL_law_360 : decode cL_law 360 = .ok (.iaload, 1) := by decide +kernel
theorem dL_law_361 : decode cL_law 361 = .ok (.invokevirtual 51, 3) := by decide +kernel
theorem dL_law_364 : decode cL_law 364 = .ok (.if_icmp .eq 507, 3) := by decide +kernel
theorem dL_law_367 : decode cL_law 367 = .ok (.iconst 0, 1) := by decide +kernel
theorem dL_law_368 : decode cL_law 368 = .ok (.ireturn, 1) := by decide +kernel
theorem dL_law_369 : decode cL_law 369 = .ok (.aload_n 1, 1) := by decide +kernel
theorem dL_law_370 : decode cL_law 370 = .ok (.aload_n 0, 1) := by decide +kernel
theorem dL_law_371 : decode cL_law 371 = .ok (.iload_n 3, 1) := by decide +kernel
theorem dL_law_372 : decode cL_law 372 = .ok (.iconst 1, 1) := by decide +kernel
theorem dL_law_373 : decode cL_law 373 = .ok (.iadd, 1) := by decide +kernel
theorem dL_law_374 : decode cL_law 374 = .ok (.iaload, 1) := by decide +kernel
theorem dL_law_375 : decode cL_law 375 = .ok (.invokevirtual 52, 3) := by decide +kernel
theorem dL_law_378 : decode cL_law 378 = .ok (.aload_n 2, 1) := by decide +kernel
theorem dL_law_379 : decode cL_law 379 = .ok (.aload_n 0, 1) := by decide +kernel
theorem dL_law_380 : decode cL_law 380 = .ok (.iload_n 3, 1) := by decide +kernel
theorem dL_law_381 : decode cL_law 381 = .ok (.iconst 1, 1) := by decide +kernel
theorem dL_law_382 : decode cL_law 382 = .ok (.iadd, 1) := by decide +kernel
theorem dL_law_383 : decode cL_law 383 = .ok (.iaload, 1) := by decide +kernel
theorem dL_law_384 : decode cL_law 384 = .ok (.invokevirtual 55, 3) := by decide +kernel
theorem dL_law_387 : decode cL_law 387 = .ok (.if_icmp .eq 484, 3) := by decide +kernel
theorem dL_law_390 : decode cL_law 390 = .ok (.iconst 0, 1) := by decide +kernel
theorem dL_law_391 : decode cL_law 391 = .ok (.ireturn, 1) := by decide +kernel
theorem dL_law_392 : decode cL_law 392 = .ok (.aload_n 1, 1) := by decide +kernel
theorem dL_law_393 : decode cL_law 393 = .ok (.aload_n 0, 1) := by decide +kernel
theorem dL_law_394 : decode cL_law 394 = .ok (.iload_n 3, 1) := by decide +kernel
theorem dL_law_395 : decode cL_law 395 = .ok (.iconst 1, 1) := by decide +kernel
theorem dL_law_396 : decode cL_law 396 = .ok (.iadd, 1) := by decide +kernel
theorem dL_law_397 : decode cL_law 397 = .ok (.iaload, 1) := by decide +kernel
theorem dL_law_398 : decode cL_law 398 = .ok (.aload_n 0, 1) := by decide +kernel
theorem dL_law_399 : decode cL_law 399 = .ok (.iload_n 3, 1) := by decide +kernel
theorem dL_law_400 : decode cL_law 400 = .ok (.iconst 2, 1) := by decide +kernel
theorem dL_law_401 : decode cL_law 401 = .ok (.iadd, 1) := by decide +kernel
theorem dL_law_402 : decode cL_law 402 = .ok (.iaload, 1) := by decide +kernel
theorem dL_law_403 : decode cL_law 403 = .ok (.invokevirtual 56, 3) := by decide +kernel
theorem dL_law_406 : decode cL_law 406 = .ok (.aload_n 2, 1) := by decide +kernel
theorem dL_law_407 : decode cL_law 407 = .ok (.aload_n 0, 1) := by decide +kernel
theorem dL_law_408 : decode cL_law 408 = .ok (.iload_n 3, 1) := by decide +kernel
theorem dL_law_409 : decode cL_law 409 = .ok (.iconst 1, 1) := by decide +kernel
theorem dL_law_410 : decode cL_law 410 = .ok (.iadd, 1) := by decide +kernel
theorem dL_law_411 : decode cL_law 411 = .ok (.iaload, 1) := by decide +kernel
theorem dL_law_412 : decode cL_law 412 = .ok (.aload_n 0, 1) := by decide +kernel
theorem dL_law_413 : decode cL_law 413 = .ok (.iload_n 3, 1) := by decide +kernel
theorem dL_law_414 : decode cL_law 414 = .ok (.iconst 2, 1) := by decide +kernel
theorem dL_law_415 : decode cL_law 415 = .ok (.iadd, 1) := by decide +kernel
theorem dL_law_416 : decode cL_law 416 = .ok (.iaload, 1) := by decide +kernel
theorem dL_law_417 : decode cL_law 417 = .ok (.invokevirtual 59, 3) := by decide +kernel
theorem dL_law_420 : decode cL_law 420 = .ok (.if_icmp .eq 451, 3) := by decide +kernel
theorem dL_law_423 : decode cL_law 423 = .ok (.iconst 0, 1) := by decide +kernel
theorem dL_law_424 : decode cL_law 424 = .ok (.ireturn, 1) := by decide +kernel
theorem dL_law_425 : decode cL_law 425 = .ok (.aload_n 1, 1) := by decide +kernel
theorem dL_law_426 : decode cL_law 426 = .ok (.aload_n 0, 1) := by decide +kernel
theorem dL_law_427 : decode cL_law 427 = .ok (.iload_n 3, 1) := by decide +kernel
theorem dL_law_428 : decode cL_law 428 = .ok (.iconst 1, 1) := by decide +kernel
theorem dL_law_429 : decode cL_law 429 = .ok (.iadd, 1) := by decide +kernel
theorem dL_law_430 : decode cL_law 430 = .ok (.iaload, 1) := by decide +kernel
theorem dL_law_431 : decode cL_law 431 = .ok (.aload_n 0, 1) := by decide +kernel
theorem dL_law_432 : decode cL_law 432 = .ok (.iload_n 3, 1) := by decide +kernel
theorem dL_law_433 : decode cL_law 433 = .ok (.iconst 2, 1) := by decide +kernel
theorem dL_law_434 : decode cL_law 434 = .ok (.iadd, 1) := by decide +kernel
theorem dL_law_435 : decode cL_law 435 = .ok (.iaload, 1) := by decide +kernel
theorem dL_law_436 : decode cL_law 436 = .ok (.invokevirtual 60, 3) := by decide +kernel
theorem dL_law_439 : decode cL_law 439 = .ok (.aload_n 2, 1) := by decide +kernel
theorem dL_law_440 : decode cL_law 440 = .ok (.aload_n 0, 1) := by decide +kernel
theorem dL_law_441 : decode cL_law 441 = .ok (.iload_n 3, 1) := by decide +kernel
theorem dL_law_442 : decode cL_law 442 = .ok (.iconst 1, 1) := by decide +kernel
theorem dL_law_443 : decode cL_law 443 = .ok (.iadd, 1) := by decide +kernel
theorem dL_law_444 : decode cL_law 444 = .ok (.iaload, 1) := by decide +kernel
theorem dL_law_445 : decode cL_law 445 = .ok (.aload_n 0, 1) := by decide +kernel
theorem dL_law_446 : decode cL_law 446 = .ok (.iload_n 3, 1) := by decide +kernel
theorem dL_law_447 : decode cL_law 447 = .ok (.iconst 2, 1) := by decide +kernel
theorem dL_law_448 : decode cL_law 448 = .ok (.iadd, 1) := by decide +kernel
theorem dL_law_449 : decode cL_law 449 = .ok (.iaload, 1) := by decide +kernel
theorem dL_law_450 : decode cL_law 450 = .ok (.invokevirtual 63, 3) := by decide +kernel
theorem dL_law_453 : decode cL_law 453 = .ok (.if_icmp .eq 418, 3) := by decide +kernel
theorem dL_law_456 : decode cL_law 456 = .ok (.iconst 0, 1) := by decide +kernel
theorem dL_law_457 : decode cL_law 457 = .ok (.ireturn, 1) := by decide +kernel
theorem dL_law_458 : decode cL_law 458 = .ok (.aload_n 1, 1) := by decide +kernel
theorem dL_law_459 : decode cL_law 459 = .ok (.aload_n 0, 1) := by decide +kernel
theorem dL_law_460 : decode cL_law 460 = .ok (.iload_n 3, 1) := by decide +kernel
theorem dL_law_461 : decode cL_law 461 = .ok (.iconst 1, 1) := by decide +kernel
theorem dL_law_462 : decode cL_law 462 = .ok (.iadd, 1) := by decide +kernel
theorem dL_law_463 : decode cL_law 463 = .ok (.iaload, 1) := by decide +kernel
theorem dL_law_464 : decode cL_law 464 = .ok (.aload_n 0, 1) := by decide +kernel
theorem dL_law_465 : decode cL_law 465 = .ok (.iload_n 3, 1) := by decide +kernel
theorem dL_law_466 : decode cL_law 466 = .ok (.iconst 2, 1) := by decide +kernel
theorem dL_law_467 : decode cL_law 467 = .ok (.iadd, 1) := by decide +kernel
theorem dL_law_468 : decode cL_law 468 = .ok (.iaload, 1) := by decide +kernel
theorem dL_law_469 : decode cL_law 469 = .ok (.invokevirtual 64, 3) := by decide +kernel
theorem dL_law_472 : decode cL_law 472 = .ok (.aload_n 2, 1) := by decide +kernel
theorem dL_law_473 : decode cL_law 473 = .ok (.aload_n 0, 1) := by decide +kernel
theorem dL_law_474 : decode cL_law 474 = .ok (.iload_n 3, 1) := by decide +kernel
theorem dL_law_475 : decode cL_law 475 = .ok (.iconst 1, 1) := by decide +kernel
theorem dL_law_476 : decode cL_law 476 = .ok (.iadd, 1) := by decide +kernel
theorem dL_law_477 : decode cL_law 477 = .ok (.iaload, 1) := by decide +kernel
theorem dL_law_478 : decode cL_law 478 = .ok (.aload_n 0, 1) := by decide +kernel
theorem dL_law_479 : decode cL_law 479 = .ok (.iload_n 3, 1) := by decide +kernel
theorem dL_law_480 : decode cL_law 480 = .ok (.iconst 2, 1) := by decide +kernel
theorem dL_law_481 : decode cL_law 481 = .ok (.iadd, 1) := by decide +kernel
theorem dL_law_482 : decode cL_law 482 = .ok (.iaload, 1) := by decide +kernel
theorem dL_law_483 : decode cL_law 483 = .ok (.invokevirtual 67, 3) := by decide +kernel
theorem dL_law_486 : decode cL_law 486 = .ok (.if_icmp .eq 385, 3) := by decide +kernel
theorem dL_law_489 : decode cL_law 489 = .ok (.iconst 0, 1) := by decide +kernel
theorem dL_law_490 : decode cL_law 490 = .ok (.ireturn, 1) := by decide +kernel
theorem dL_law_491 : decode cL_law 491 = .ok (.aload_n 1, 1) := by decide +kernel
theorem dL_law_492 : decode cL_law 492 = .ok (.invokevirtual 68, 3) := by decide +kernel
theorem dL_law_495 : decode cL_law 495 = .ok (.aload_n 2, 1) := by decide +kernel
theorem dL_law_496 : decode cL_law 496 = .ok (.invokevirtual 71, 3) := by decide +kernel
theorem dL_law_499 : decode cL_law 499 = .ok (.if_icmp .eq 372, 3) := by decide +kernel
theorem dL_law_502 : decode cL_law 502 = .ok (.iconst 0, 1) := by decide +kernel
theorem dL_law_503 : decode cL_law 503 = .ok (.ireturn, 1) := by decide +kernel
theorem dL_law_504 : decode cL_law 504 = .ok (.aload_n 1, 1) := by decide +kernel
theorem dL_law_505 : decode cL_law 505 = .ok (.aload_n 0, 1) := by decide +kernel
theorem dL_law_506 : decode cL_law 506 = .ok (.iload_n 3, 1) := by decide +kernel
theorem dL_law_507 : decode cL_law 507 = .ok (.iconst 1, 1) := by decide +kernel
theorem dL_law_508 : decode cL_law 508 = .ok (.iadd, 1) := by decide +kernel
theorem dL_law_509 : decode cL_law 509 = .ok (.iaload, 1) := by decide +kernel
theorem dL_law_510 : decode cL_law 510 = .ok (.aload_n 0, 1) := by decide +kernel
theorem dL_law_511 : decode cL_law 511 = .ok (.iload_n 3, 1) := by decide +kernel
theorem dL_law_512 : decode cL_law 512 = .ok (.iconst 2, 1) := by decide +kernel
theorem dL_law_513 : decode cL_law 513 = .ok (.iadd, 1) := by decide +kernel
theorem dL_law_514 : decode cL_law 514 = .ok (.iaload, 1) := by decide +kernel
theorem dL_law_515 : decode cL_law 515 = .ok (.aload_n 0, 1) := by decide +kernel
theorem dL_law_516 : decode cL_law 516 = .ok (.iload_n 3, 1) := by decide +kernel
theorem dL_law_517 : decode cL_law 517 = .ok (.iconst 3, 1) := by decide +kernel
theorem dL_law_518 : decode cL_law 518 = .ok (.iadd, 1) := by decide +kernel
theorem dL_law_519 : decode cL_law 519 = .ok (.iaload, 1) := by decide +kernel
theorem dL_law_520 : decode cL_law 520 = .ok (.invokevirtual 72, 3) := by decide +kernel
theorem dL_law_523 : decode cL_law 523 = .ok (.aload_n 2, 1) := by decide +kernel
theorem dL_law_524 : decode cL_law 524 = .ok (.aload_n 0, 1) := by decide +kernel
theorem dL_law_525 : decode cL_law 525 = .ok (.iload_n 3, 1) := by decide +kernel
theorem dL_law_526 : decode cL_law 526 = .ok (.iconst 1, 1) := by decide +kernel
theorem dL_law_527 : decode cL_law 527 = .ok (.iadd, 1) := by decide +kernel
theorem dL_law_528 : decode cL_law 528 = .ok (.iaload, 1) := by decide +kernel
theorem dL_law_529 : decode cL_law 529 = .ok (.aload_n 0, 1) := by decide +kernel
theorem dL_law_530 : decode cL_law 530 = .ok (.iload_n 3, 1) := by decide +kernel
theorem dL_law_531 : decode cL_law 531 = .ok (.iconst 2, 1) := by decide +kernel
theorem dL_law_532 : decode cL_law 532 = .ok (.iadd, 1) := by decide +kernel
theorem dL_law_533 : decode cL_law 533 = .ok (.iaload, 1) := by decide +kernel
theorem dL_law_534 : decode cL_law 534 = .ok (.aload_n 0, 1) := by decide +kernel
theorem dL_law_535 : decode cL_law 535 = .ok (.iload_n 3, 1) := by decide +kernel
theorem dL_law_536 : decode cL_law 536 = .ok (.iconst 3, 1) := by decide +kernel
theorem dL_law_537 : decode cL_law 537 = .ok (.iadd, 1) := by decide +kernel
theorem dL_law_538 : decode cL_law 538 = .ok (.iaload, 1) := by decide +kernel
theorem dL_law_539 : decode cL_law 539 = .ok (.invokevirtual 76, 3) := by decide +kernel
theorem dL_law_542 : decode cL_law 542 = .ok (.if_icmp .eq 329, 3) := by decide +kernel
theorem dL_law_545 : decode cL_law 545 = .ok (.iconst 0, 1) := by decide +kernel
theorem dL_law_546 : decode cL_law 546 = .ok (.ireturn, 1) := by decide +kernel
theorem dL_law_547 : decode cL_law 547 = .ok (.aload_n 1, 1) := by decide +kernel
theorem dL_law_548 : decode cL_law 548 = .ok (.aload_n 0, 1) := by decide +kernel
theorem dL_law_549 : decode cL_law 549 = .ok (.iload_n 3, 1) := by decide +kernel
theorem dL_law_550 : decode cL_law 550 = .ok (.iconst 1, 1) := by decide +kernel
theorem dL_law_551 : decode cL_law 551 = .ok (.iadd, 1) := by decide +kernel
theorem dL_law_552 : decode cL_law 552 = .ok (.iaload, 1) := by decide +kernel
theorem dL_law_553 : decode cL_law 553 = .ok (.aload_n 0, 1) := by decide +kernel
theorem dL_law_554 : decode cL_law 554 = .ok (.iload_n 3, 1) := by decide +kernel
theorem dL_law_555 : decode cL_law 555 = .ok (.iconst 2, 1) := by decide +kernel
theorem dL_law_556 : decode cL_law 556 = .ok (.iadd, 1) := by decide +kernel
theorem dL_law_557 : decode cL_law 557 = .ok (.iaload, 1) := by decide +kernel
theorem dL_law_558 : decode cL_law 558 = .ok (.aload_n 0, 1) := by decide +kernel
theorem dL_law_559 : decode cL_law 559 = .ok (.iload_n 3, 1) := by decide +kernel
theorem dL_law_560 : decode cL_law 560 = .ok (.iconst 3, 1) := by decide +kernel
theorem dL_law_561 : decode cL_law 561 = .ok (.iadd, 1) := by decide +kernel
theorem dL_law_562 : decode cL_law 562 = .ok (.iaload, 1) := by decide +kernel
theorem dL_law_563 : decode cL_law 563 = .ok (.invokevirtual 77, 3) := by decide +kernel
theorem dL_law_566 : decode cL_law 566 = .ok (.aload_n 2, 1) := by decide +kernel
theorem dL_law_567 : decode cL_law 567 = .ok (.aload_n 0, 1) := by decide +kernel
theorem dL_law_568 : decode cL_law 568 = .ok (.iload_n 3, 1) := by decide +kernel
theorem dL_law_569 : decode cL_law 569 = .ok (.iconst 1, 1) := by decide +kernel
theorem dL_law_570 : decode cL_law 570 = .ok (.iadd, 1) := by decide +kernel
theorem dL_law_571 : decode cL_law 571 = .ok (.iaload, 1) := by decide +kernel
theorem dL_law_572 : decode cL_law 572 = .ok (.aload_n 0, 1) := by decide +kernel
theorem dL_law_573 : decode cL_law 573 = .ok (.iload_n 3, 1) := by decide +kernel
theorem dL_law_574 : decode cL_law 574 = .ok (.iconst 2, 1) := by decide +kernel
theorem dL_law_575 : decode cL_law 575 = .ok (.iadd, 1) := by decide +kernel
theorem dL_law_576 : decode cL_law 576 = .ok (.iaload, 1) := by decide +kernel
theorem dL_law_577 : decode cL_law 577 = .ok (.aload_n 0, 1) := by decide +kernel
theorem dL_law_578 : decode cL_law 578 = .ok (.iload_n 3, 1) := by decide +kernel
theorem dL_law_579 : decode cL_law 579 = .ok (.iconst 3, 1) := by decide +kernel
theorem dL_law_580 : decode cL_law 580 = .ok (.iadd, 1) := by decide +kernel
theorem dL_law_581 : decode cL_law 581 = .ok (.iaload, 1) := by decide +kernel
theorem dL_law_582 : decode cL_law 582 = .ok (.invokevirtual 80, 3) := by decide +kernel
theorem dL_law_585 : decode cL_law 585 = .ok (.if_icmp .eq 286, 3) := by decide +kernel
theorem dL_law_588 : decode cL_law 588 = .ok (.iconst 0, 1) := by decide +kernel
theorem dL_law_589 : decode cL_law 589 = .ok (.ireturn, 1) := by decide +kernel
theorem dL_law_590 : decode cL_law 590 = .ok (.aload_n 1, 1) := by decide +kernel
theorem dL_law_591 : decode cL_law 591 = .ok (.aload_n 0, 1) := by decide +kernel
theorem dL_law_592 : decode cL_law 592 = .ok (.iload_n 3, 1) := by decide +kernel
theorem dL_law_593 : decode cL_law 593 = .ok (.iconst 1, 1) := by decide +kernel
theorem dL_law_594 : decode cL_law 594 = .ok (.iadd, 1) := by decide +kernel
theorem dL_law_595 : decode cL_law 595 = .ok (.iaload, 1) := by decide +kernel
theorem dL_law_596 : decode cL_law 596 = .ok (.aload_n 0, 1) := by decide +kernel
theorem dL_law_597 : decode cL_law 597 = .ok (.iload_n 3, 1) := by decide +kernel
theorem dL_law_598 : decode cL_law 598 = .ok (.iconst 2, 1) := by decide +kernel
theorem dL_law_599 : decode cL_law 599 = .ok (.iadd, 1) := by decide +kernel
theorem dL_law_600 : decode cL_law 600 = .ok (.iaload, 1) := by decide +kernel
theorem dL_law_601 : decode cL_law 601 = .ok (.aload_n 0, 1) := by decide +kernel
theorem dL_law_602 : decode cL_law 602 = .ok (.iload_n 3, 1) := by decide +kernel
theorem dL_law_603 : decode cL_law 603 = .ok (.iconst 3, 1) := by decide +kernel
theorem dL_law_604 : decode cL_law 604 = .ok (.iadd, 1) := by decide +kernel
theorem dL_law_605 : decode cL_law 605 = .ok (.iaload, 1) := by decide +kernel
theorem dL_law_606 : decode cL_law 606 = .ok (.aload_n 0, 1) := by decide +kernel
theorem dL_law_607 : decode cL_law 607 = .ok (.iload_n 3, 1) := by decide +kernel
theorem dL_law_608 : decode cL_law 608 = .ok (.iconst 4, 1) := by decide +kernel
theorem dL_law_609 : decode cL_law 609 = .ok (.iadd, 1) := by decide +kernel
theorem dL_law_610 : decode cL_law 610 = .ok (.iaload, 1) := by decide +kernel
theorem dL_law_611 : decode cL_law 611 = .ok (.aload_n 0, 1) := by decide +kernel
theorem dL_law_612 : decode cL_law 612 = .ok (.iload_n 3, 1) := by decide +kernel
theorem dL_law_613 : decode cL_law 613 = .ok (.iconst 5, 1) := by decide +kernel
theorem dL_law_614 : decode cL_law 614 = .ok (.iadd, 1) := by decide +kernel
theorem dL_law_615 : decode cL_law 615 = .ok (.iaload, 1) := by decide +kernel
theorem dL_law_616 : decode cL_law 616 = .ok (.invokevirtual 81, 3) := by decide +kernel
theorem dL_law_619 : decode cL_law 619 = .ok (.aload_n 2, 1) := by decide +kernel
theorem dL_law_620 : decode cL_law 620 = .ok (.aload_n 0, 1) := by decide +kernel
theorem dL_law_621 : decode cL_law 621 = .ok (.iload_n 3, 1) := by decide +kernel
theorem dL_law_622 : decode cL_law 622 = .ok (.iconst 1, 1) := by decide +kernel
theorem dL_law_623 : decode cL_law 623 = .ok (.iadd, 1) := by decide +kernel
theorem dL_law_624 : decode cL_law 624 = .ok (.iaload, 1) := by decide +kernel
theorem dL_law_625 : decode cL_law 625 = .ok (.aload_n 0, 1) := by decide +kernel
theorem dL_law_626 : decode cL_law 626 = .ok (.iload_n 3, 1) := by decide +kernel
theorem dL_law_627 : decode cL_law 627 = .ok (.iconst 2, 1) := by decide +kernel
theorem dL_law_628 : decode cL_law 628 = .ok (.iadd, 1) := by decide +kernel
theorem dL_law_629 : decode cL_law 629 = .ok (.iaload, 1) := by decide +kernel
theorem dL_law_630 : decode cL_law 630 = .ok (.aload_n 0, 1) := by decide +kernel
theorem dL_law_631 : decode cL_law 631 = .ok (.iload_n 3, 1) := by decide +kernel
theorem dL_law_632 : decode cL_law 632 = .ok (.iconst 3, 1) := by decide +kernel
theorem dL_law_633 : decode cL_law 633 = .ok (.iadd, 1) := by decide +kernel
theorem dL_law_634 : decode cL_law 634 = .ok (.iaload, 1) := by decide +kernel
theorem dL_law_635 : decode cL_law 635 = .ok (.aload_n 0, 1) := by decide +kernel
theorem dL_law_636 : decode cL_law 636 = .ok (.iload_n 3, 1) := by decide +kernel
theorem dL_law_637 : decode cL_law 637 = .ok (.iconst 4, 1) := by decide +kernel
theorem dL_law_638 : decode cL_law 638 = .ok (.iadd, 1) := by decide +kernel
theorem dL_law_639 : decode cL_law 639 = .ok (.iaload, 1) := by decide +kernel
theorem dL_law_640 : decode cL_law 640 = .ok (.aload_n 0, 1) := by decide +kernel
theorem dL_law_641 : decode cL_law 641 = .ok (.iload_n 3, 1) := by decide +kernel
theorem dL_law_642 : decode cL_law 642 = .ok (.iconst 5, 1) := by decide +kernel
theorem dL_law_643 : decode cL_law 643 = .ok (.iadd, 1) := by decide +kernel
theorem dL_law_644 : decode cL_law 644 = .ok (.iaload, 1) := by decide +kernel
theorem dL_law_645 : decode cL_law 645 = .ok (.invokevirtual 85, 3) := by decide +kernel
theorem dL_law_648 : decode cL_law 648 = .ok (.if_icmp .eq 223, 3) := by decide +kernel
theorem dL_law_651 : decode cL_law 651 = .ok (.iconst 0, 1) := by decide +kernel
theorem dL_law_652 : decode cL_law 652 = .ok (.ireturn, 1) := by decide +kernel
theorem dL_law_653 : decode cL_law 653 = .ok (.aload_n 1, 1) := by decide +kernel
theorem dL_law_654 : decode cL_law 654 = .ok (.aload_n 0, 1) := by decide +kernel
theorem dL_law_655 : decode cL_law 655 = .ok (.iload_n 3, 1) := by decide +kernel
theorem dL_law_656 : decode cL_law 656 = .ok (.iconst 1, 1) := by decide +kernel
theorem dL_law_657 : decode cL_law 657 = .ok (.iadd, 1) := by decide +kernel
theorem dL_law_658 : decode cL_law 658 = .ok (.iaload, 1) := by decide +kernel
theorem dL_law_659 : decode cL_law 659 = .ok (.aload_n 0, 1) := by decide +kernel
theorem dL_law_660 : decode cL_law 660 = .ok (.iload_n 3, 1) := by decide +kernel
theorem dL_law_661 : decode cL_law 661 = .ok (.iconst 2, 1) := by decide +kernel
theorem dL_law_662 : decode cL_law 662 = .ok (.iadd, 1) := by decide +kernel
theorem dL_law_663 : decode cL_law 663 = .ok (.iaload, 1) := by decide +kernel
theorem dL_law_664 : decode cL_law 664 = .ok (.aload_n 0, 1) := by decide +kernel
theorem dL_law_665 : decode cL_law 665 = .ok (.iload_n 3, 1) := by decide +kernel
theorem dL_law_666 : decode cL_law 666 = .ok (.iconst 3, 1) := by decide +kernel
theorem dL_law_667 : decode cL_law 667 = .ok (.iadd, 1) := by decide +kernel
theorem dL_law_668 : decode cL_law 668 = .ok (.iaload, 1) := by decide +kernel
theorem dL_law_669 : decode cL_law 669 = .ok (.invokevirtual 86, 3) := by decide +kernel
theorem dL_law_672 : decode cL_law 672 = .ok (.aload_n 2, 1) := by decide +kernel
theorem dL_law_673 : decode cL_law 673 = .ok (.aload_n 0, 1) := by decide +kernel
theorem dL_law_674 : decode cL_law 674 = .ok (.iload_n 3, 1) := by decide +kernel
theorem dL_law_675 : decode cL_law 675 = .ok (.iconst 1, 1) := by decide +kernel
theorem dL_law_676 : decode cL_law 676 = .ok (.iadd, 1) := by decide +kernel
theorem dL_law_677 : decode cL_law 677 = .ok (.iaload, 1) := by decide +kernel
theorem dL_law_678 : decode cL_law 678 = .ok (.aload_n 0, 1) := by decide +kernel
theorem dL_law_679 : decode cL_law 679 = .ok (.iload_n 3, 1) := by decide +kernel
theorem dL_law_680 : decode cL_law 680 = .ok (.iconst 2, 1) := by decide +kernel
theorem dL_law_681 : decode cL_law 681 = .ok (.iadd, 1) := by decide +kernel
theorem dL_law_682 : decode cL_law 682 = .ok (.iaload, 1) := by decide +kernel
theorem dL_law_683 : decode cL_law 683 = .ok (.aload_n 0, 1) := by decide +kernel
theorem dL_law_684 : decode cL_law 684 = .ok (.iload_n 3, 1) := by decide +kernel
theorem dL_law_685 : decode cL_law 685 = .ok (.iconst 3, 1) := by decide +kernel
theorem dL_law_686 : decode cL_law 686 = .ok (.iadd, 1) := by decide +kernel
theorem dL_law_687 : decode cL_law 687 = .ok (.iaload, 1) := by decide +kernel
theorem dL_law_688 : decode cL_law 688 = .ok (.invokevirtual 89, 3) := by decide +kernel
theorem dL_law_691 : decode cL_law 691 = .ok (.if_icmp .eq 180, 3) := by decide +kernel
theorem dL_law_694 : decode cL_law 694 = .ok (.iconst 0, 1) := by decide +kernel
theorem dL_law_695 : decode cL_law 695 = .ok (.ireturn, 1) := by decide +kernel
theorem dL_law_696 : decode cL_law 696 = .ok (.aload_n 1, 1) := by decide +kernel
theorem dL_law_697 : decode cL_law 697 = .ok (.invokevirtual 90, 3) := by decide +kernel
theorem dL_law_700 : decode cL_law 700 = .ok (.aload_n 2, 1) := by decide +kernel
theorem dL_law_701 : decode cL_law 701 = .ok (.invokevirtual 93, 3) := by decide +kernel
theorem dL_law_704 : decode cL_law 704 = .ok (.if_icmp .eq 167, 3) := by decide +kernel
theorem dL_law_707 : decode cL_law 707 = .ok (.iconst 0, 1) := by decide +kernel
theorem dL_law_708 : decode cL_law 708 = .ok (.ireturn, 1) := by decide +kernel
theorem dL_law_709 : decode cL_law 709 = .ok (.aload_n 1, 1) := by decide +kernel
theorem dL_law_710 : decode cL_law 710 = .ok (.aload_n 0, 1) := by decide +kernel
theorem dL_law_711 : decode cL_law 711 = .ok (.iload_n 3, 1) := by decide +kernel
theorem dL_law_712 : decode cL_law 712 = .ok (.iconst 1, 1) := by decide +kernel
theorem dL_law_713 : decode cL_law 713 = .ok (.iadd, 1) := by decide +kernel
theorem dL_law_714 : decode cL_law 714 = .ok (.iaload, 1) := by decide +kernel
theorem dL_law_715 : decode cL_law 715 = .ok (.aload_n 0, 1) := by decide +kernel
theorem dL_law_716 : decode cL_law 716 = .ok (.iload_n 3, 1) := by decide +kernel
theorem dL_law_717 : decode cL_law 717 = .ok (.iconst 2, 1) := by decide +kernel
theorem dL_law_718 : decode cL_law 718 = .ok (.iadd, 1) := by decide +kernel
theorem dL_law_719 : decode cL_law 719 = .ok (.iaload, 1) := by decide +kernel
theorem dL_law_720 : decode cL_law 720 = .ok (.invokevirtual 94, 3) := by decide +kernel
theorem dL_law_723 : decode cL_law 723 = .ok (.aload_n 2, 1) := by decide +kernel
theorem dL_law_724 : decode cL_law 724 = .ok (.aload_n 0, 1) := by decide +kernel
theorem dL_law_725 : decode cL_law 725 = .ok (.iload_n 3, 1) := by decide +kernel
theorem dL_law_726 : decode cL_law 726 = .ok (.iconst 1, 1) := by decide +kernel
theorem dL_law_727 : decode cL_law 727 = .ok (.iadd, 1) := by decide +kernel
theorem dL_law_728 : decode cL_law 728 = .ok (.iaload, 1) := by decide +kernel
theorem dL_law_729 : decode cL_law 729 = .ok (.aload_n 0, 1) := by decide +kernel
theorem dL_law_730 : decode cL_law 730 = .ok (.iload_n 3, 1) := by decide +kernel
theorem dL_law_731 : decode cL_law 731 = .ok (.iconst 2, 1) := by decide +kernel
theorem dL_law_732 : decode cL_law 732 = .ok (.iadd, 1) := by decide +kernel
theorem dL_law_733 : decode cL_law 733 = .ok (.iaload, 1) := by decide +kernel
theorem dL_law_734 : decode cL_law 734 = .ok (.invokevirtual 97, 3) := by decide +kernel
theorem dL_law_737 : decode cL_law 737 = .ok (.if_icmp .eq 134, 3) := by decide +kernel
theorem dL_law_740 : decode cL_law 740 = .ok (.iconst 0, 1) := by decide +kernel
theorem dL_law_741 : decode cL_law 741 = .ok (.ireturn, 1) := by decide +kernel
theorem dL_law_742 : decode cL_law 742 = .ok (.aload_n 1, 1) := by decide +kernel
theorem dL_law_743 : decode cL_law 743 = .ok (.aload_n 0, 1) := by decide +kernel
theorem dL_law_744 : decode cL_law 744 = .ok (.iload_n 3, 1) := by decide +kernel
theorem dL_law_745 : decode cL_law 745 = .ok (.iconst 1, 1) := by decide +kernel
theorem dL_law_746 : decode cL_law 746 = .ok (.iadd, 1) := by decide +kernel
theorem dL_law_747 : decode cL_law 747 = .ok (.iaload, 1) := by decide +kernel
theorem dL_law_748 : decode cL_law 748 = .ok (.invokevirtual 98, 3) := by decide +kernel
theorem dL_law_751 : decode cL_law 751 = .ok (.aload_n 2, 1) := by decide +kernel
theorem dL_law_752 : decode cL_law 752 = .ok (.aload_n 0, 1) := by decide +kernel
theorem dL_law_753 : decode cL_law 753 = .ok (.iload_n 3, 1) := by decide +kernel
theorem dL_law_754 : decode cL_law 754 = .ok (.iconst 1, 1) := by decide +kernel
theorem dL_law_755 : decode cL_law 755 = .ok (.iadd, 1) := by decide +kernel
theorem dL_law_756 : decode cL_law 756 = .ok (.iaload, 1) := by decide +kernel
theorem dL_law_757 : decode cL_law 757 = .ok (.invokevirtual 101, 3) := by decide +kernel
theorem dL_law_760 : decode cL_law 760 = .ok (.if_icmp .eq 111, 3) := by decide +kernel
theorem dL_law_763 : decode cL_law 763 = .ok (.iconst 0, 1) := by decide +kernel
theorem dL_law_764 : decode cL_law 764 = .ok (.ireturn, 1) := by decide +kernel
theorem dL_law_765 : decode cL_law 765 = .ok (.aload_n 1, 1) := by decide +kernel
theorem dL_law_766 : decode cL_law 766 = .ok (.aload_n 0, 1) := by decide +kernel
theorem dL_law_767 : decode cL_law 767 = .ok (.iload_n 3, 1) := by decide +kernel
theorem dL_law_768 : decode cL_law 768 = .ok (.iconst 1, 1) := by decide +kernel
theorem dL_law_769 : decode cL_law 769 = .ok (.iadd, 1) := by decide +kernel
theorem dL_law_770 : decode cL_law 770 = .ok (.iaload, 1) := by decide +kernel
theorem dL_law_771 : decode cL_law 771 = .ok (.aload_n 0, 1) := by decide +kernel
theorem dL_law_772 : decode cL_law 772 = .ok (.iload_n 3, 1) := by decide +kernel
theorem dL_law_773 : decode cL_law 773 = .ok (.iconst 2, 1) := by decide +kernel
theorem dL_law_774 : decode cL_law 774 = .ok (.iadd, 1) := by decide +kernel
theorem dL_law_775 : decode cL_law 775 = .ok (.iaload, 1) := by decide +kernel
theorem dL_law_776 : decode cL_law 776 = .ok (.aload_n 0, 1) := by decide +kernel
theorem dL_law_777 : decode cL_law 777 = .ok (.iload_n 3, 1) := by decide +kernel
theorem dL_law_778 : decode cL_law 778 = .ok (.iconst 3, 1) := by decide +kernel
theorem dL_law_779 : decode cL_law 779 = .ok (.iadd, 1) := by decide +kernel
theorem dL_law_780 : decode cL_law 780 = .ok (.iaload, 1) := by decide +kernel
theorem dL_law_781 : decode cL_law 781 = .ok (.invokevirtual 102, 3) := by decide +kernel
theorem dL_law_784 : decode cL_law 784 = .ok (.aload_n 2, 1) := by decide +kernel
theorem dL_law_785 : decode cL_law 785 = .ok (.aload_n 0, 1) := by decide +kernel
theorem dL_law_786 : decode cL_law 786 = .ok (.iload_n 3, 1) := by decide +kernel
theorem dL_law_787 : decode cL_law 787 = .ok (.iconst 1, 1) := by decide +kernel
theorem dL_law_788 : decode cL_law 788 = .ok (.iadd, 1) := by decide +kernel
theorem dL_law_789 : decode cL_law 789 = .ok (.iaload, 1) := by decide +kernel
theorem dL_law_790 : decode cL_law 790 = .ok (.aload_n 0, 1) := by decide +kernel
theorem dL_law_791 : decode cL_law 791 = .ok (.iload_n 3, 1) := by decide +kernel
theorem dL_law_792 : decode cL_law 792 = .ok (.iconst 2, 1) := by decide +kernel
theorem dL_law_793 : decode cL_law 793 = .ok (.iadd, 1) := by decide +kernel
theorem dL_law_794 : decode cL_law 794 = .ok (.iaload, 1) := by decide +kernel
theorem dL_law_795 : decode cL_law 795 = .ok (.aload_n 0, 1) := by decide +kernel
theorem dL_law_796 : decode cL_law 796 = .ok (.iload_n 3, 1) := by decide +kernel
theorem dL_law_797 : decode cL_law 797 = .ok (.iconst 3, 1) := by decide +kernel
theorem dL_law_798 : decode cL_law 798 = .ok (.iadd, 1) := by decide +kernel
theorem dL_law_799 : decode cL_law 799 = .ok (.iaload, 1) := by decide +kernel
theorem dL_law_800 : decode cL_law 800 = .ok (.invokevirtual 105, 3) := by decide +kernel
theorem dL_law_803 : decode cL_law 803 = .ok (.if_icmp .eq 68, 3) := by decide +kernel
theorem dL_law_806 : decode cL_law 806 = .ok (.iconst 0, 1) := by decide +kernel
theorem dL_law_807 : decode cL_law 807 = .ok (.ireturn, 1) := by decide +kernel
theorem dL_law_808 : decode cL_law 808 = .ok (.aload_n 1, 1) := by decide +kernel
theorem dL_law_809 : decode cL_law 809 = .ok (.invokevirtual 106, 3) := by decide +kernel
theorem dL_law_812 : decode cL_law 812 = .ok (.aload_n 2, 1) := by decide +kernel
theorem dL_law_813 : decode cL_law 813 = .ok (.invokevirtual 109, 3) := by decide +kernel
theorem dL_law_816 : decode cL_law 816 = .ok (.if_icmp .eq 55, 3) := by decide +kernel
theorem dL_law_819 : decode cL_law 819 = .ok (.iconst 0, 1) := by decide +kernel
theorem dL_law_820 : decode cL_law 820 = .ok (.ireturn, 1) := by decide +kernel
theorem dL_law_821 : decode cL_law 821 = .ok (.aload_n 1, 1) := by decide +kernel
theorem dL_law_822 : decode cL_law 822 = .ok (.invokevirtual 110, 3) := by decide +kernel
theorem dL_law_825 : decode cL_law 825 = .ok (.aload_n 2, 1) := by decide +kernel
theorem dL_law_826 : decode cL_law 826 = .ok (.invokevirtual 113, 3) := by decide +kernel
theorem dL_law_829 : decode cL_law 829 = .ok (.if_icmp .eq 42, 3) := by decide +kernel
theorem dL_law_832 : decode cL_law 832 = .ok (.iconst 0, 1) := by decide +kernel
theorem dL_law_833 : decode cL_law 833 = .ok (.ireturn, 1) := by decide +kernel
theorem dL_law_834 : decode cL_law 834 = .ok (.aload_n 1, 1) := by decide +kernel
theorem dL_law_835 : decode cL_law 835 = .ok (.aload_n 0, 1) := by decide +kernel
theorem dL_law_836 : decode cL_law 836 = .ok (.iload_n 3, 1) := by decide +kernel
theorem dL_law_837 : decode cL_law 837 = .ok (.iconst 1, 1) := by decide +kernel
theorem dL_law_838 : decode cL_law 838 = .ok (.iadd, 1) := by decide +kernel
theorem dL_law_839 : decode cL_law 839 = .ok (.iaload, 1) := by decide +kernel
theorem dL_law_840 : decode cL_law 840 = .ok (.invokevirtual 114, 3) := by decide +kernel
theorem dL_law_843 : decode cL_law 843 = .ok (.aload_n 2, 1) := by decide +kernel
theorem dL_law_844 : decode cL_law 844 = .ok (.aload_n 0, 1) := by decide +kernel
theorem dL_law_845 : decode cL_law 845 = .ok (.iload_n 3, 1) := by decide +kernel
theorem dL_law_846 : decode cL_law 846 = .ok (.iconst 1, 1) := by decide +kernel
theorem dL_law_847 : decode cL_law 847 = .ok (.iadd, 1) := by decide +kernel
theorem dL_law_848 : decode cL_law 848 = .ok (.iaload, 1) := by decide +kernel
theorem dL_law_849 : decode cL_law 849 = .ok (.invokevirtual 117, 3) := by decide +kernel
theorem dL_law_852 : decode cL_law 852 = .ok (.if_icmp .eq 19, 3) := by decide +kernel
theorem dL_law_855 : decode cL_law 855 = .ok (.iconst 0, 1) := by decide +kernel
theorem dL_law_856 : decode cL_law 856 = .ok (.ireturn, 1) := by decide +kernel
theorem dL_law_857 : decode cL_law 857 = .ok (.aload_n 1, 1) := by decide +kernel
theorem dL_law_858 : decode cL_law 858 = .ok (.invokevirtual 118, 3) := by decide +kernel
theorem dL_law_861 : decode cL_law 861 = .ok (.aload_n 2, 1) := by decide +kernel
theorem dL_law_862 : decode cL_law 862 = .ok (.invokevirtual 122, 3) := by decide +kernel
theorem dL_law_865 : decode cL_law 865 = .ok (.lcmp, 1) := by decide +kernel
theorem dL_law_866 : decode cL_law 866 = .ok (.ifCond .eq 5, 3) := by decide +kernel
theorem dL_law_869 : decode cL_law 869 = .ok (.iconst 0, 1) := by decide +kernel
theorem dL_law_870 : decode cL_law 870 = .ok (.ireturn, 1) := by decide +kernel
theorem dL_law_871 : decode cL_law 871 = .ok (.iinc 3 6, 3) := by decide +kernel
theorem dL_law_874 : decode cL_law 874 = .ok (.goto (-856), 3) := by decide +kernel
theorem dL_law_877 : decode cL_law 877 = .ok (.iconst 1, 1) := by decide +kernel
theorem dL_law_878 : decode cL_law 878 = .ok (.ireturn, 1) := by decide +kernel
