theorem dX10_unfoldTo_0 : decode cX10_unfoldTo 0 = .ok (.aload_n 0, 1) := by decide +kernel
theorem dX10_unfoldTo_1 : decode cX10_unfoldTo 1 = .ok (.aload_n 0, 1) := by decide +kernel
theorem dX10_unfoldTo_2 : decode cX10_unfoldTo 2 = .ok (.getfield 38, 3) := by decide +kernel
theorem dX10_unfoldTo_5 : decode cX10_unfoldTo 5 = .ok (.iconst 0, 1) := by decide +kernel
theorem dX10_unfoldTo_6 : decode cX10_unfoldTo 6 = .ok (.iaload, 1) := by decide +kernel
theorem dX10_unfoldTo_7 : decode cX10_unfoldTo 7 = .ok (.invokevirtual 142, 3) := by decide +kernel
theorem dX10_unfoldTo_10 : decode cX10_unfoldTo 10 = .ok (.istore_n 3, 1) := by decide +kernel
theorem dX10_unfoldTo_11 : decode cX10_unfoldTo 11 = .ok (.iconst 0, 1) := by decide +kernel
theorem dX10_unfoldTo_12 : decode cX10_unfoldTo 12 = .ok (.istore 4, 2) := by decide +kernel
theorem dX10_unfoldTo_14 : decode cX10_unfoldTo 14 = .ok (.iload 4, 2) := by decide +kernel
theorem dX10_unfoldTo_16 : decode cX10_unfoldTo 16 = .ok (.iload_n 2, 1) := by decide +kernel
theorem dX10_unfoldTo_17 : decode cX10_unfoldTo 17 = .ok (.if_icmp .gt 78, 3) := by decide +kernel
theorem dX10_unfoldTo_20 : decode cX10_unfoldTo 20 = .ok (.aload_n 0, 1) := by decide +kernel
theorem dX10_unfoldTo_21 : decode cX10_unfoldTo 21 = .ok (.getfield 35, 3) := by decide +kernel
theorem dX10_unfoldTo_24 : decode cX10_unfoldTo 24 = .ok (.iload 4, 2) := by decide +kernel
theorem dX10_unfoldTo_26 : decode cX10_unfoldTo 26 = .ok (.iaload, 1) := by decide +kernel
theorem dX10_unfoldTo_27 : decode cX10_unfoldTo 27 = .ok (.i2l, 1) := by decide +kernel
theorem dX10_unfoldTo_28 : decode cX10_unfoldTo 28 = .ok (.lstore 5, 2) := by decide +kernel
theorem dX10_unfoldTo_30 : decode cX10_unfoldTo 30 = .ok (.iconst 1, 1) := by decide +kernel
theorem dX10_unfoldTo_31 : decode cX10_unfoldTo 31 = .ok (.istore 7, 2) := by decide +kernel
theorem dX10_unfoldTo_33 : decode cX10_unfoldTo 33 = .ok (.iload 7, 2) := by decide +kernel
theorem dX10_unfoldTo_35 : decode cX10_unfoldTo 35 = .ok (.iload 4, 2) := by decide +kernel
theorem dX10_unfoldTo_37 : decode cX10_unfoldTo 37 = .ok (.if_icmp .gt 37, 3) := by decide +kernel
theorem dX10_unfoldTo_40 : decode cX10_unfoldTo 40 = .ok (.lload 5, 2) := by decide +kernel
theorem dX10_unfoldTo_42 : decode cX10_unfoldTo 42 = .ok (.aload_n 0, 1) := by decide +kernel
theorem dX10_unfoldTo_43 : decode cX10_unfoldTo 43 = .ok (.getfield 38, 3) := by decide +kernel
theorem dX10_unfoldTo_46 : decode cX10_unfoldTo 46 = .ok (.iload 7, 2) := by decide +kernel
theorem dX10_unfoldTo_48 : decode cX10_unfoldTo 48 = .ok (.iaload, 1) := by decide +kernel
theorem dX10_unfoldTo_49 : decode cX10_unfoldTo 49 = .ok (.i2l, 1) := by decide +kernel
theorem dX10_unfoldTo_50 : decode cX10_unfoldTo 50 = .ok (.aload_n 1, 1) := by decide +kernel
theorem dX10_unfoldTo_51 : decode cX10_unfoldTo 51 = .ok (.iload 4, 2) := by decide +kernel
theorem dX10_unfoldTo_53 : decode cX10_unfoldTo 53 = .ok (.iload 7, 2) := by decide +kernel
theorem dX10_unfoldTo_55 : decode cX10_unfoldTo 55 = .ok (.isub, 1) := by decide +kernel
theorem dX10_unfoldTo_56 : decode cX10_unfoldTo 56 = .ok (.iaload, 1) := by decide +kernel
theorem dX10_unfoldTo_57 : decode cX10_unfoldTo 57 = .ok (.i2l, 1) := by decide +kernel
theorem dX10_unfoldTo_58 : decode cX10_unfoldTo 58 = .ok (.lmul, 1) := by decide +kernel
theorem dX10_unfoldTo_59 : decode cX10_unfoldTo 59 = .ok (.aload_n 0, 1) := by decide +kernel
theorem dX10_unfoldTo_60 : decode cX10_unfoldTo 60 = .ok (.getfield 92, 3) := by decide +kernel
theorem dX10_unfoldTo_63 : decode cX10_unfoldTo 63 = .ok (.i2l, 1) := by decide +kernel
theorem dX10_unfoldTo_64 : decode cX10_unfoldTo 64 = .ok (.lrem, 1) := by decide +kernel
theorem dX10_unfoldTo_65 : decode cX10_unfoldTo 65 = .ok (.lsub, 1) := by decide +kernel
theorem dX10_unfoldTo_66 : decode cX10_unfoldTo 66 = .ok (.lstore 5, 2) := by decide +kernel
theorem dX10_unfoldTo_68 : decode cX10_unfoldTo 68 = .ok (.iinc 7 1, 3) := by decide +kernel
theorem dX10_unfoldTo_71 : decode cX10_unfoldTo 71 = .ok (.goto (-38), 3) := by decide +kernel
theorem dX10_unfoldTo_74 : decode cX10_unfoldTo 74 = .ok (.aload_n 1, 1) := by decide +kernel
theorem dX10_unfoldTo_75 : decode cX10_unfoldTo 75 = .ok (.iload 4, 2) := by decide +kernel
theorem dX10_unfoldTo_77 : decode cX10_unfoldTo 77 = .ok (.aload_n 0, 1) := by decide +kernel
theorem dX10_unfoldTo_78 : decode cX10_unfoldTo 78 = .ok (.aload_n 0, 1) := by decide +kernel
theorem dX10_unfoldTo_79 : decode cX10_unfoldTo 79 = .ok (.lload 5, 2) := by decide +kernel
theorem dX10_unfoldTo_81 : decode cX10_unfoldTo 81 = .ok (.invokevirtual 135, 3) := by decide +kernel
theorem dX10_unfoldTo_84 : decode cX10_unfoldTo 84 = .ok (.iload_n 3, 1) := by decide +kernel
theorem dX10_unfoldTo_85 : decode cX10_unfoldTo 85 = .ok (.invokevirtual 99, 3) := by decide +kernel
theorem dX10_unfoldTo_88 : decode cX10_unfoldTo 88 = .ok (.iastore, 1) := by decide +kernel
theorem dX10_unfoldTo_89 : decode cX10_unfoldTo 89 = .ok (.iinc 4 1, 3) := by decide +kernel
theorem dX10_unfoldTo_92 : decode cX10_unfoldTo 92 = .ok (.goto (-78), 3) := by decide +kernel
theorem dX10_unfoldTo_95 : decode cX10_unfoldTo 95 = .ok (.return_, 1) := by decide +kernel
theorem dX10_clearWork_0 : decode cX10_clearWork 0 = .ok (.iconst 0, 1) := by decide +kernel
theorem dX10_clearWork_1 : decode cX10_clearWork 1 = .ok (.istore_n 1, 1) := by decide +kernel
theorem dX10_clearWork_2 : decode cX10_clearWork 2 = .ok (.iload_n 1, 1) := by decide +kernel
theorem dX10_clearWork_3 : decode cX10_clearWork 3 = .ok (.bipush 90, 2) := by decide +kernel
theorem dX10_clearWork_5 : decode cX10_clearWork 5 = .ok (.if_icmp .ge 23, 3) := by decide +kernel
theorem dX10_clearWork_8 : decode cX10_clearWork 8 = .ok (.aload_n 0, 1) := by decide +kernel
theorem dX10_clearWork_9 : decode cX10_clearWork 9 = .ok (.getfield 35, 3) := by decide +kernel
theorem dX10_clearWork_12 : decode cX10_clearWork 12 = .ok (.iload_n 1, 1) := by decide +kernel
theorem dX10_clearWork_13 : decode cX10_clearWork 13 = .ok (.iconst 0, 1) := by decide +kernel
theorem dX10_clearWork_14 : decode cX10_clearWork 14 = .ok (.iastore, 1) := by decide +kernel
theorem dX10_clearWork_15 : decode cX10_clearWork 15 = .ok (.aload_n 0, 1) := by decide +kernel
theorem dX10_clearWork_16 : decode cX10_clearWork 16 = .ok (.getfield 38, 3) := by decide +kernel
theorem dX10_clearWork_19 : decode cX10_clearWork 19 = .ok (.iload_n 1, 1) := by decide +kernel
theorem dX10_clearWork_20 : decode cX10_clearWork 20 = .ok (.iconst 0, 1) := by decide +kernel
theorem dX10_clearWork_21 : decode cX10_clearWork 21 = .ok (.iastore, 1) := by decide +kernel
theorem dX10_clearWork_22 : decode cX10_clearWork 22 = .ok (.iinc 1 1, 3) := by decide +kernel
theorem dX10_clearWork_25 : decode cX10_clearWork 25 = .ok (.goto (-23), 3) := by decide +kernel
theorem dX10_clearWork_28 : decode cX10_clearWork 28 = .ok (.return_, 1) := by decide +kernel
theorem dX10_share_0 : decode cX10_share 0 = .ok (.iload_n 1, 1) := by decide +kernel
theorem dX10_share_1 : decode cX10_share 1 = .ok (.invokestatic 126, 3) := by decide +kernel
theorem dX10_share_4 : decode cX10_share 4 = .ok (.ifCond .ne 6, 3) := by decide +kernel
theorem dX10_share_7 : decode cX10_share 7 = .ok (.bipush (-101), 2) := by decide +kernel
theorem dX10_share_9 : decode cX10_share 9 = .ok (.ireturn, 1) := by decide +kernel
theorem dX10_share_10 : decode cX10_share 10 = .ok (.iload_n 3, 1) := by decide +kernel
theorem dX10_share_11 : decode cX10_share 11 = .ok (.i2l, 1) := by decide +kernel
theorem dX10_share_12 : decode cX10_share 12 = .ok (.lconst 0, 1) := by decide +kernel
theorem dX10_share_13 : decode cX10_share 13 = .ok (.ldc2_w 133, 3) := by decide +kernel
theorem dX10_share_16 : decode cX10_share 16 = .ok (.invokestatic 107, 3) := by decide +kernel
theorem dX10_share_19 : decode cX10_share 19 = .ok (.ifCond .eq 29, 3) := by decide +kernel
theorem dX10_share_22 : decode cX10_share 22 = .ok (.iload 4, 2) := by decide +kernel
theorem dX10_share_24 : decode cX10_share 24 = .ok (.i2l, 1) := by decide +kernel
theorem dX10_share_25 : decode cX10_share 25 = .ok (.lconst 0, 1) := by decide +kernel
theorem dX10_share_26 : decode cX10_share 26 = .ok (.ldc2_w 133, 3) := by decide +kernel
theorem dX10_share_29 : decode cX10_share 29 = .ok (.invokestatic 107, 3) := by decide +kernel
theorem dX10_share_32 : decode cX10_share 32 = .ok (.ifCond .eq 16, 3) := by decide +kernel
theorem dX10_share_35 : decode cX10_share 35 = .ok (.iload 5, 2) := by decide +kernel
theorem dX10_share_37 : decode cX10_share 37 = .ok (.i2l, 1) := by decide +kernel
theorem dX10_share_38 : decode cX10_share 38 = .ok (.lconst 0, 1) := by decide +kernel
theorem dX10_share_39 : decode cX10_share 39 = .ok (.ldc2_w 133, 3) := by decide +kernel
theorem dX10_share_42 : decode cX10_share 42 = .ok (.invokestatic 107, 3) := by decide +kernel
theorem dX10_share_45 : decode cX10_share 45 = .ok (.ifCond .ne 6, 3) := by decide +kernel
theorem dX10_share_48 : decode cX10_share 48 = .ok (.bipush (-102), 2) := by decide +kernel
theorem dX10_share_50 : decode cX10_share 50 = .ok (.ireturn, 1) := by decide +kernel
theorem dX10_share_51 : decode cX10_share 51 = .ok (.aload_n 0, 1) := by decide +kernel
theorem dX10_share_52 : decode cX10_share 52 = .ok (.getfield 13, 3) := by decide +kernel
theorem dX10_share_55 : decode cX10_share 55 = .ok (.iload_n 1, 1) := by decide +kernel
theorem dX10_share_56 : decode cX10_share 56 = .ok (.iaload, 1) := by decide +kernel
theorem dX10_share_57 : decode cX10_share 57 = .ok (.iconst (-1), 1) := by decide +kernel
theorem dX10_share_58 : decode cX10_share 58 = .ok (.if_icmp .ne 9, 3) := by decide +kernel
theorem dX10_share_61 : decode cX10_share 61 = .ok (.aload_n 0, 1) := by decide +kernel
theorem dX10_share_62 : decode cX10_share 62 = .ok (.iconst 1, 1) := by decide +kernel
theorem dX10_share_63 : decode cX10_share 63 = .ok (.invokevirtual 129, 3) := by decide +kernel
theorem dX10_share_66 : decode cX10_share 66 = .ok (.ireturn, 1) := by decide +kernel
theorem dX10_share_67 : decode cX10_share 67 = .ok (.iload_n 2, 1) := by decide +kernel
theorem dX10_share_68 : decode cX10_share 68 = .ok (.ifCond .lt 27, 3) := by decide +kernel
theorem dX10_share_71 : decode cX10_share 71 = .ok (.iload_n 2, 1) := by decide +kernel
theorem dX10_share_72 : decode cX10_share 72 = .ok (.i2l, 1) := by decide +kernel
theorem dX10_share_73 : decode cX10_share 73 = .ok (.iload_n 3, 1) := by decide +kernel
theorem dX10_share_74 : decode cX10_share 74 = .ok (.i2l, 1) := by decide +kernel
theorem dX10_share_75 : decode cX10_share 75 = .ok (.ladd, 1) := by decide +kernel
theorem dX10_share_76 : decode cX10_share 76 = .ok (.iload 4, 2) := by decide +kernel
theorem dX10_share_78 : decode cX10_share 78 = .ok (.i2l, 1) := by decide +kernel
theorem dX10_share_79 : decode cX10_share 79 = .ok (.ladd, 1) := by decide +kernel
theorem dX10_share_80 : decode cX10_share 80 = .ok (.ldc2_w 103, 3) := by decide +kernel
theorem dX10_share_83 : decode cX10_share 83 = .ok (.ladd, 1) := by decide +kernel
theorem dX10_share_84 : decode cX10_share 84 = .ok (.aload_n 0, 1) := by decide +kernel
theorem dX10_share_85 : decode cX10_share 85 = .ok (.getfield 16, 3) := by decide +kernel
theorem dX10_share_88 : decode cX10_share 88 = .ok (.iload_n 1, 1) := by decide +kernel
theorem dX10_share_89 : decode cX10_share 89 = .ok (.iaload, 1) := by decide +kernel
theorem dX10_share_90 : decode cX10_share 90 = .ok (.i2l, 1) := by decide +kernel
theorem dX10_share_91 : decode cX10_share 91 = .ok (.lcmp, 1) := by decide +kernel
theorem dX10_share_92 : decode cX10_share 92 = .ok (.ifCond .le 9, 3) := by decide +kernel
theorem dX10_share_95 : decode cX10_share 95 = .ok (.aload_n 0, 1) := by decide +kernel
theorem dX10_share_96 : decode cX10_share 96 = .ok (.iconst 2, 1) := by decide +kernel
theorem dX10_share_97 : decode cX10_share 97 = .ok (.invokevirtual 129, 3) := by decide +kernel
theorem dX10_share_100 : decode cX10_share 100 = .ok (.ireturn, 1) := by decide +kernel
theorem dX10_share_101 : decode cX10_share 101 = .ok (.aload_n 0, 1) := by decide +kernel
theorem dX10_share_102 : decode cX10_share 102 = .ok (.invokevirtual 145, 3) := by decide +kernel
theorem dX10_share_105 : decode cX10_share 105 = .ok (.iconst 0, 1) := by decide +kernel
theorem dX10_share_106 : decode cX10_share 106 = .ok (.istore 6, 2) := by decide +kernel
theorem dX10_share_108 : decode cX10_share 108 = .ok (.iload 6, 2) := by decide +kernel
theorem dX10_share_110 : decode cX10_share 110 = .ok (.iload_n 3, 1) := by decide +kernel
theorem dX10_share_111 : decode cX10_share 111 = .ok (.if_icmp .gt 34, 3) := by decide +kernel
theorem dX10_share_114 : decode cX10_share 114 = .ok (.aload_n 0, 1) := by decide +kernel
theorem dX10_share_115 : decode cX10_share 115 = .ok (.getfield 35, 3) := by decide +kernel
theorem dX10_share_118 : decode cX10_share 118 = .ok (.iload 6, 2) := by decide +kernel
theorem dX10_share_120 : decode cX10_share 120 = .ok (.aload_n 0, 1) := by decide +kernel
theorem dX10_share_121 : decode cX10_share 121 = .ok (.aload_n 0, 1) := by decide +kernel
theorem dX10_share_122 : decode cX10_share 122 = .ok (.getfield 19, 3) := by decide +kernel
theorem dX10_share_125 : decode cX10_share 125 = .ok (.bipush 60, 2) := by decide +kernel
theorem dX10_share_127 : decode cX10_share 127 = .ok (.iload_n 1, 1) := by decide +kernel
theorem dX10_share_128 : decode cX10_share 128 = .ok (.imul, 1) := by decide +kernel
theorem dX10_share_129 : decode cX10_share 129 = .ok (.iload_n 2, 1) := by decide +kernel
theorem dX10_share_130 : decode cX10_share 130 = .ok (.iadd, 1) := by decide +kernel
theorem dX10_share_131 : decode cX10_share 131 = .ok (.iload 6, 2) := by decide +kernel
theorem dX10_share_133 : decode cX10_share 133 = .ok (.iadd, 1) := by decide +kernel
theorem dX10_share_134 : decode cX10_share 134 = .ok (.laload, 1) := by decide +kernel
theorem dX10_share_135 : decode cX10_share 135 = .ok (.invokevirtual 135, 3) := by decide +kernel
theorem dX10_share_138 : decode cX10_share 138 = .ok (.iastore, 1) := by decide +kernel
theorem dX10_share_139 : decode cX10_share 139 = .ok (.iinc 6 1, 3) := by decide +kernel
theorem dX10_share_142 : decode cX10_share 142 = .ok (.goto (-34), 3) := by decide +kernel
theorem dX10_share_145 : decode cX10_share 145 = .ok (.iconst 0, 1) := by decide +kernel
theorem dX10_share_146 : decode cX10_share 146 = .ok (.istore 6, 2) := by decide +kernel
theorem dX10_share_148 : decode cX10_share 148 = .ok (.iload 6, 2) := by decide +kernel
theorem dX10_share_150 : decode cX10_share 150 = .ok (.iload 4, 2) := by decide +kernel
theorem dX10_share_152 : decode cX10_share 152 = .ok (.if_icmp .gt 38, 3) := by decide +kernel
theorem dX10_share_155 : decode cX10_share 155 = .ok (.aload_n 0, 1) := by decide +kernel
theorem dX10_share_156 : decode cX10_share 156 = .ok (.getfield 38, 3) := by decide +kernel
theorem dX10_share_159 : decode cX10_share 159 = .ok (.iload 6, 2) := by decide +kernel
theorem dX10_share_161 : decode cX10_share 161 = .ok (.aload_n 0, 1) := by decide +kernel
theorem dX10_share_162 : decode cX10_share 162 = .ok (.aload_n 0, 1) := by decide +kernel
theorem dX10_share_163 : decode cX10_share 163 = .ok (.getfield 19, 3) := by decide +kernel
theorem dX10_share_166 : decode cX10_share 166 = .ok (.bipush 60, 2) := by decide +kernel
theorem dX10_share_168 : decode cX10_share 168 = .ok (.iload_n 1, 1) := by decide +kernel
theorem dX10_share_169 : decode cX10_share 169 = .ok (.imul, 1) := by decide +kernel
theorem dX10_share_170 : decode cX10_share 170 = .ok (.iload_n 2, 1) := by decide +kernel
theorem dX10_share_171 : decode cX10_share 171 = .ok (.iadd, 1) := by decide +kernel
theorem dX10_share_172 : decode cX10_share 172 = .ok (.iload_n 3, 1) := by decide +kernel
theorem dX10_share_173 : decode cX10_share 173 = .ok (.iadd, 1) := by decide +kernel
theorem dX10_share_174 : decode cX10_share 174 = .ok (.iconst 1, 1) := by decide +kernel
theorem dX10_share_175 : decode cX10_share 175 = .ok (.iadd, 1) := by decide +kernel
theorem dX10_share_176 : decode cX10_share 176 = .ok (.iload 6, 2) := by decide +kernel
theorem dX10_share_178 : decode cX10_share 178 = .ok (.iadd, 1) := by decide +kernel
theorem dX10_share_179 : decode cX10_share 179 = .ok (.laload, 1) := by decide +kernel
theorem dX10_share_180 : decode cX10_share 180 = .ok (.invokevirtual 135, 3) := by decide +kernel
theorem dX10_share_183 : decode cX10_share 183 = .ok (.iastore, 1) := by decide +kernel
theorem dX10_share_184 : decode cX10_share 184 = .ok (.iinc 6 1, 3) := by decide +kernel
theorem dX10_share_187 : decode cX10_share 187 = .ok (.goto (-39), 3) := by decide +kernel
theorem dX10_share_190 : decode cX10_share 190 = .ok (.aload_n 0, 1) := by decide +kernel
theorem dX10_share_191 : decode cX10_share 191 = .ok (.getfield 38, 3) := by decide +kernel
theorem dX10_share_194 : decode cX10_share 194 = .ok (.iconst 0, 1) := by decide +kernel
theorem dX10_share_195 : decode cX10_share 195 = .ok (.iaload, 1) := by decide +kernel
theorem dX10_share_196 : decode cX10_share 196 = .ok (.ifCond .ne 9, 3) := by decide +kernel
theorem dX10_share_199 : decode cX10_share 199 = .ok (.aload_n 0, 1) := by decide +kernel
theorem dX10_share_200 : decode cX10_share 200 = .ok (.iconst 5, 1) := by decide +kernel
theorem dX10_share_201 : decode cX10_share 201 = .ok (.invokevirtual 129, 3) := by decide +kernel
theorem dX10_share_204 : decode cX10_share 204 = .ok (.ireturn, 1) := by decide +kernel
theorem dX10_share_205 : decode cX10_share 205 = .ok (.aload_n 0, 1) := by decide +kernel
theorem dX10_share_206 : decode cX10_share 206 = .ok (.aload_n 0, 1) := by decide +kernel
theorem dX10_share_207 : decode cX10_share 207 = .ok (.getfield 32, 3) := by decide +kernel
theorem dX10_share_210 : decode cX10_share 210 = .ok (.iload 5, 2) := by decide +kernel
theorem dX10_share_212 : decode cX10_share 212 = .ok (.invokevirtual 148, 3) := by decide +kernel
theorem dX10_share_215 : decode cX10_share 215 = .ok (.aload_n 0, 1) := by decide +kernel
theorem dX10_share_216 : decode cX10_share 216 = .ok (.iload 5, 2) := by decide +kernel
theorem dX10_share_218 : decode cX10_share 218 = .ok (.invokevirtual 139, 3) := by decide +kernel
theorem dX10_share_221 : decode cX10_share 221 = .ok (.ireturn, 1) := by decide +kernel
theorem dX10_loadResult_0 : decode cX10_loadResult 0 = .ok (.aload_n 0, 1) := by decide +kernel
theorem dX10_loadResult_1 : decode cX10_loadResult 1 = .ok (.invokevirtual 145, 3) := by decide +kernel
theorem dX10_loadResult_4 : decode cX10_loadResult 4 = .ok (.iconst 0, 1) := by decide +kernel
theorem dX10_loadResult_5 : decode cX10_loadResult 5 = .ok (.istore_n 1, 1) := by decide +kernel
theorem dX10_loadResult_6 : decode cX10_loadResult 6 = .ok (.iload_n 1, 1) := by decide +kernel
theorem dX10_loadResult_7 : decode cX10_loadResult 7 = .ok (.bipush 45, 2) := by decide +kernel
theorem dX10_loadResult_9 : decode cX10_loadResult 9 = .ok (.if_icmp .gt 33, 3) := by decide +kernel
theorem dX10_loadResult_12 : decode cX10_loadResult 12 = .ok (.aload_n 0, 1) := by decide +kernel
theorem dX10_loadResult_13 : decode cX10_loadResult 13 = .ok (.getfield 35, 3) := by decide +kernel
theorem dX10_loadResult_16 : decode cX10_loadResult 16 = .ok (.iload_n 1, 1) := by decide +kernel
theorem dX10_loadResult_17 : decode cX10_loadResult 17 = .ok (.aload_n 0, 1) := by decide +kernel
theorem dX10_loadResult_18 : decode cX10_loadResult 18 = .ok (.getfield 50, 3) := by decide +kernel
theorem dX10_loadResult_21 : decode cX10_loadResult 21 = .ok (.iload_n 1, 1) := by decide +kernel
theorem dX10_loadResult_22 : decode cX10_loadResult 22 = .ok (.iaload, 1) := by decide +kernel
theorem dX10_loadResult_23 : decode cX10_loadResult 23 = .ok (.iastore, 1) := by decide +kernel
theorem dX10_loadResult_24 : decode cX10_loadResult 24 = .ok (.aload_n 0, 1) := by decide +kernel
theorem dX10_loadResult_25 : decode cX10_loadResult 25 = .ok (.getfield 38, 3) := by decide +kernel
theorem dX10_loadResult_28 : decode cX10_loadResult 28 = .ok (.iload_n 1, 1) := by decide +kernel
theorem dX10_loadResult_29 : decode cX10_loadResult 29 = .ok (.aload_n 0, 1) := by decide +kernel
theorem dX10_loadResult_30 : decode cX10_loadResult 30 = .ok (.getfield 53, 3) := by decide +kernel
theorem dX10_loadResult_33 : decode cX10_loadResult 33 = .ok (.iload_n 1, 1) := by decide +kernel
theorem dX10_loadResult_34 : decode cX10_loadResult 34 = .ok (.iaload, 1) := by decide +kernel
theorem dX10_loadResult_35 : decode cX10_loadResult 35 = .ok (.iastore, 1) := by decide +kernel
theorem dX10_loadResult_36 : decode cX10_loadResult 36 = .ok (.iinc 1 1, 3) := by decide +kernel
theorem dX10_loadResult_39 : decode cX10_loadResult 39 = .ok (.goto (-33), 3) := by decide +kernel
theorem dX10_loadResult_42 : decode cX10_loadResult 42 = .ok (.return_, 1) := by decide +kernel
theorem dX10_unfold_0 : decode cX10_unfold 0 = .ok (.iload_n 1, 1) := by decide +kernel
theorem dX10_unfold_1 : decode cX10_unfold 1 = .ok (.i2l, 1) := by decide +kernel
theorem dX10_unfold_2 : decode cX10_unfold 2 = .ok (.lconst 0, 1) := by decide +kernel
theorem dX10_unfold_3 : decode cX10_unfold 3 = .ok (.ldc2_w 133, 3) := by decide +kernel
theorem dX10_unfold_6 : decode cX10_unfold 6 = .ok (.invokestatic 107, 3) := by decide +kernel
theorem dX10_unfold_9 : decode cX10_unfold 9 = .ok (.ifCond .ne 6, 3) := by decide +kernel
theorem dX10_unfold_12 : decode cX10_unfold 12 = .ok (.bipush (-102), 2) := by decide +kernel
theorem dX10_unfold_14 : decode cX10_unfold 14 = .ok (.ireturn, 1) := by decide +kernel
theorem dX10_unfold_15 : decode cX10_unfold 15 = .ok (.aload_n 0, 1) := by decide +kernel
theorem dX10_unfold_16 : decode cX10_unfold 16 = .ok (.getfield 53, 3) := by decide +kernel
theorem dX10_unfold_19 : decode cX10_unfold 19 = .ok (.iconst 0, 1) := by decide +kernel
theorem dX10_unfold_20 : decode cX10_unfold 20 = .ok (.iaload, 1) := by decide +kernel
theorem dX10_unfold_21 : decode cX10_unfold 21 = .ok (.ifCond .ne 9, 3) := by decide +kernel
theorem dX10_unfold_24 : decode cX10_unfold 24 = .ok (.aload_n 0, 1) := by decide +kernel
theorem dX10_unfold_25 : decode cX10_unfold 25 = .ok (.iconst 5, 1) := by decide +kernel
theorem dX10_unfold_26 : decode cX10_unfold 26 = .ok (.invokevirtual 129, 3) := by decide +kernel
theorem dX10_unfold_29 : decode cX10_unfold 29 = .ok (.ireturn, 1) := by decide +kernel
theorem dX10_unfold_30 : decode cX10_unfold 30 = .ok (.aload_n 0, 1) := by decide +kernel
theorem dX10_unfold_31 : decode cX10_unfold 31 = .ok (.invokevirtual 152, 3) := by decide +kernel
theorem dX10_unfold_34 : decode cX10_unfold 34 = .ok (.aload_n 0, 1) := by decide +kernel
theorem dX10_unfold_35 : decode cX10_unfold 35 = .ok (.aload_n 0, 1) := by decide +kernel
theorem dX10_unfold_36 : decode cX10_unfold 36 = .ok (.getfield 32, 3) := by decide +kernel
theorem dX10_unfold_39 : decode cX10_unfold 39 = .ok (.iload_n 1, 1) := by decide +kernel
theorem dX10_unfold_40 : decode cX10_unfold 40 = .ok (.invokevirtual 148, 3) := by decide +kernel
theorem dX10_unfold_43 : decode cX10_unfold 43 = .ok (.aload_n 0, 1) := by decide +kernel
theorem dX10_unfold_44 : decode cX10_unfold 44 = .ok (.iload_n 1, 1) := by decide +kernel
theorem dX10_unfold_45 : decode cX10_unfold 45 = .ok (.invokevirtual 139, 3) := by decide +kernel
theorem dX10_unfold_48 : decode cX10_unfold 48 = .ok (.ireturn, 1) := by decide +kernel
theorem dX10_lesser_0 : decode cX10_lesser 0 = .ok (.aload_n 0, 1) := by decide +kernel
theorem dX10_lesser_1 : decode cX10_lesser 1 = .ok (.getfield 26, 3) := by decide +kernel
theorem dX10_lesser_4 : decode cX10_lesser 4 = .ok (.iload_n 1, 1) := by decide +kernel
theorem dX10_lesser_5 : decode cX10_lesser 5 = .ok (.iaload, 1) := by decide +kernel
theorem dX10_lesser_6 : decode cX10_lesser 6 = .ok (.aload_n 0, 1) := by decide +kernel
theorem dX10_lesser_7 : decode cX10_lesser 7 = .ok (.getfield 26, 3) := by decide +kernel
theorem dX10_lesser_10 : decode cX10_lesser 10 = .ok (.iload_n 2, 1) := by decide +kernel
theorem dX10_lesser_11 : decode cX10_lesser 11 = .ok (.iaload, 1) := by decide +kernel
theorem dX10_lesser_12 : decode cX10_lesser 12 = .ok (.if_icmp .ge 12, 3) := by decide +kernel
theorem dX10_lesser_15 : decode cX10_lesser 15 = .ok (.aload_n 0, 1) := by decide +kernel
theorem dX10_lesser_16 : decode cX10_lesser 16 = .ok (.getfield 26, 3) := by decide +kernel
theorem dX10_lesser_19 : decode cX10_lesser 19 = .ok (.iload_n 1, 1) := by decide +kernel
theorem dX10_lesser_20 : decode cX10_lesser 20 = .ok (.iaload, 1) := by decide +kernel
theorem dX10_lesser_21 : decode cX10_lesser 21 = .ok (.goto 9, 3) := by decide +kernel
theorem dX10_lesser_24 : decode cX10_lesser 24 = .ok (.aload_n 0, 1) := by decide +kernel
theorem dX10_lesser_25 : decode cX10_lesser 25 = .ok (.getfield 26, 3) := by decide +kernel
theorem dX10_lesser_28 : decode cX10_lesser 28 = .ok (.iload_n 2, 1) := by decide +kernel
theorem dX10_lesser_29 : decode cX10_lesser 29 = .ok (.iaload, 1) := by decide +kernel
theorem dX10_lesser_30 : decode cX10_lesser 30 = .ok (.ireturn, 1) := by decide +kernel
theorem dX10_plus_0 : decode cX10_plus 0 = .ok (.aload_n 0, 1) := by decide +kernel
theorem dX10_plus_1 : decode cX10_plus 1 = .ok (.iload_n 1, 1) := by decide +kernel
theorem dX10_plus_2 : decode cX10_plus 2 = .ok (.invokevirtual 155, 3) := by decide +kernel
theorem dX10_plus_5 : decode cX10_plus 5 = .ok (.ifCond .eq 11, 3) := by decide +kernel
theorem dX10_plus_8 : decode cX10_plus 8 = .ok (.aload_n 0, 1) := by decide +kernel
theorem dX10_plus_9 : decode cX10_plus 9 = .ok (.iload_n 2, 1) := by decide +kernel
theorem dX10_plus_10 : decode cX10_plus 10 = .ok (.invokevirtual 155, 3) := by decide +kernel
theorem dX10_plus_13 : decode cX10_plus 13 = .ok (.ifCond .ne 6, 3) := by decide +kernel
theorem dX10_plus_16 : decode cX10_plus 16 = .ok (.bipush (-101), 2) := by decide +kernel
theorem dX10_plus_18 : decode cX10_plus 18 = .ok (.ireturn, 1) := by decide +kernel
theorem dX10_plus_19 : decode cX10_plus 19 = .ok (.aload_n 0, 1) := by decide +kernel
theorem dX10_plus_20 : decode cX10_plus 20 = .ok (.iload_n 1, 1) := by decide +kernel
theorem dX10_plus_21 : decode cX10_plus 21 = .ok (.iload_n 2, 1) := by decide +kernel
theorem dX10_plus_22 : decode cX10_plus 22 = .ok (.invokevirtual 158, 3) := by decide +kernel
theorem dX10_plus_25 : decode cX10_plus 25 = .ok (.istore 4, 2) := by decide +kernel
theorem dX10_plus_27 : decode cX10_plus 27 = .ok (.iconst 0, 1) := by decide +kernel
theorem dX10_plus_28 : decode cX10_plus 28 = .ok (.istore 5, 2) := by decide +kernel
theorem dX10_plus_30 : decode cX10_plus 30 = .ok (.iload 5, 2) := by decide +kernel
theorem dX10_plus_32 : decode cX10_plus 32 = .ok (.iload 4, 2) := by decide +kernel
theorem dX10_plus_34 : decode cX10_plus 34 = .ok (.if_icmp .gt 45, 3) := by decide +kernel
theorem dX10_plus_37 : decode cX10_plus 37 = .ok (.aload_n 0, 1) := by decide +kernel
theorem dX10_plus_38 : decode cX10_plus 38 = .ok (.getfield 32, 3) := by decide +kernel
theorem dX10_plus_41 : decode cX10_plus 41 = .ok (.iload 5, 2) := by decide +kernel
theorem dX10_plus_43 : decode cX10_plus 43 = .ok (.aload_n 0, 1) := by decide +kernel
theorem dX10_plus_44 : decode cX10_plus 44 = .ok (.aload_n 0, 1) := by decide +kernel
theorem dX10_plus_45 : decode cX10_plus 45 = .ok (.iload_n 1, 1) := by decide +kernel
theorem dX10_plus_46 : decode cX10_plus 46 = .ok (.iload 5, 2) := by decide +kernel
theorem dX10_plus_48 : decode cX10_plus 48 = .ok (.invokevirtual 161, 3) := by decide +kernel
theorem dX10_plus_51 : decode cX10_plus 51 = .ok (.i2l, 1) := by decide +kernel
theorem dX10_plus_52 : decode cX10_plus 52 = .ok (.aload_n 0, 1) := by decide +kernel
theorem dX10_plus_53 : decode cX10_plus 53 = .ok (.iload_n 3, 1) := by decide +kernel
theorem dX10_plus_54 : decode cX10_plus 54 = .ok (.i2l, 1) := by decide +kernel
theorem dX10_plus_55 : decode cX10_plus 55 = .ok (.invokevirtual 135, 3) := by decide +kernel
theorem dX10_plus_58 : decode cX10_plus 58 = .ok (.i2l, 1) := by decide +kernel
theorem dX10_plus_59 : decode cX10_plus 59 = .ok (.aload_n 0, 1) := by decide +kernel
theorem dX10_plus_60 : decode cX10_plus 60 = .ok (.iload_n 2, 1) := by decide +kernel
theorem dX10_plus_61 : decode cX10_plus 61 = .ok (.iload 5, 2) := by decide +kernel
theorem dX10_plus_63 : decode cX10_plus 63 = .ok (.invokevirtual 161, 3) := by decide +kernel
theorem dX10_plus_66 : decode cX10_plus 66 = .ok (.i2l, 1) := by decide +kernel
theorem dX10_plus_67 : decode cX10_plus 67 = .ok (.lmul, 1) := by decide +kernel
theorem dX10_plus_68 : decode cX10_plus 68 = .ok (.ladd, 1) := by decide +kernel
theorem dX10_plus_69 : decode cX10_plus 69 = .ok (.invokevirtual 135, 3) := by decide +kernel
theorem dX10_plus_72 : decode cX10_plus 72 = .ok (.iastore, 1) := by decide +kernel
theorem dX10_plus_73 : decode cX10_plus 73 = .ok (.iinc 5 1, 3) := by decide +kernel
theorem dX10_plus_76 : decode cX10_plus 76 = .ok (.goto (-46), 3) := by decide +kernel
theorem dX10_plus_79 : decode cX10_plus 79 = .ok (.aload_n 0, 1) := by decide +kernel
theorem dX10_plus_80 : decode cX10_plus 80 = .ok (.iload 4, 2) := by decide +kernel
theorem dX10_plus_82 : decode cX10_plus 82 = .ok (.invokevirtual 139, 3) := by decide +kernel
theorem dX10_plus_85 : decode cX10_plus 85 = .ok (.ireturn, 1) := by decide +kernel
theorem dX10_times_0 : decode cX10_times 0 = .ok (.aload_n 0, 1) := by decide +kernel
theorem dX10_times_1 : decode cX10_times 1 = .ok (.iload_n 1, 1) := by decide +kernel
theorem dX10_times_2 : decode cX10_times 2 = .ok (.invokevirtual 155, 3) := by decide +kernel
theorem dX10_times_5 : decode cX10_times 5 = .ok (.ifCond .eq 11, 3) := by decide +kernel
theorem dX10_times_8 : decode cX10_times 8 = .ok (.aload_n 0, 1) := by decide +kernel
theorem dX10_times_9 : decode cX10_times 9 = .ok (.iload_n 2, 1) := by decide +kernel
theorem dX10_times_10 : decode cX10_times 10 = .ok (.invokevirtual 155, 3) := by decide +kernel
theorem dX10_times_13 : decode cX10_times 13 = .ok (.ifCond .ne 6, 3) := by decide +kernel
theorem dX10_times_16 : decode cX10_times 16 = .ok (.bipush (-101), 2) := by decide +kernel
theorem dX10_times_18 : decode cX10_times 18 = .ok (.ireturn, 1) := by decide +kernel
theorem dX10_times_19 : decode cX10_times 19 = .ok (.aload_n 0, 1) := by decide +kernel
theorem dX10_times_20 : decode cX10_times 20 = .ok (.iload_n 1, 1) := by decide +kernel
theorem dX10_times_21 : decode cX10_times 21 = .ok (.iload_n 2, 1) := by decide +kernel
theorem dX10_times_22 : decode cX10_times 22 = .ok (.invokevirtual 158, 3) := by decide +kernel
theorem dX10_times_25 : decode cX10_times 25 = .ok (.istore_n 3, 1) := by decide +kernel
theorem dX10_times_26 : decode cX10_times 26 = .ok (.iconst 0, 1) := by decide +kernel
theorem dX10_times_27 : decode cX10_times 27 = .ok (.istore 4, 2) := by decide +kernel
theorem dX10_times_29 : decode cX10_times 29 = .ok (.iload 4, 2) := by decide +kernel
theorem dX10_times_31 : decode cX10_times 31 = .ok (.iload_n 3, 1) := by decide +kernel
theorem dX10_times_32 : decode cX10_times 32 = .ok (.if_icmp .gt 66, 3) := by decide +kernel
theorem dX10_times_35 : decode cX10_times 35 = .ok (.lconst 0, 1) := by decide +kernel
theorem dX10_times_36 : decode cX10_times 36 = .ok (.lstore 5, 2) := by decide +kernel
theorem dX10_times_38 : decode cX10_times 38 = .ok (.iconst 0, 1) := by decide +kernel
theorem dX10_times_39 : decode cX10_times 39 = .ok (.istore 7, 2) := by decide +kernel
theorem dX10_times_41 : decode cX10_times 41 = .ok (.iload 7, 2) := by decide +kernel
theorem dX10_times_43 : decode cX10_times 43 = .ok (.iload 4, 2) := by decide +kernel
theorem dX10_times_45 : decode cX10_times 45 = .ok (.if_icmp .gt 34, 3) := by decide +kernel
theorem dX10_times_48 : decode cX10_times 48 = .ok (.lload 5, 2) := by decide +kernel
theorem dX10_times_50 : decode cX10_times 50 = .ok (.aload_n 0, 1) := by decide +kernel
theorem dX10_times_51 : decode cX10_times 51 = .ok (.iload_n 1, 1) := by decide +kernel
theorem dX10_times_52 : decode cX10_times 52 = .ok (.iload 7, 2) := by decide +kernel
theorem dX10_times_54 : decode cX10_times 54 = .ok (.invokevirtual 161, 3) := by decide +kernel
theorem dX10_times_57 : decode cX10_times 57 = .ok (.i2l, 1) := by decide +kernel
theorem dX10_times_58 : decode cX10_times 58 = .ok (.aload_n 0, 1) := by decide +kernel
theorem dX10_times_59 : decode cX10_times 59 = .ok (.iload_n 2, 1) := by decide +kernel
theorem dX10_times_60 : decode cX10_times 60 = .ok (.iload 4, 2) := by decide +kernel
theorem dX10_times_62 : decode cX10_times 62 = .ok (.iload 7, 2) := by decide +kernel
theorem dX10_times_64 : decode cX10_times 64 = .ok (.isub, 1) := by decide +kernel
theorem dX10_times_65 : decode cX10_times 65 = .ok (.invokevirtual 161, 3) := by decide +kernel
theorem dX10_times_68 : decode cX10_times 68 = .ok (.i2l, 1) := by decide +kernel
theorem dX10_times_69 : decode cX10_times 69 = .ok (.lmul, 1) := by decide +kernel
theorem dX10_times_70 : decode cX10_times 70 = .ok (.ladd, 1) := by decide +kernel
theorem dX10_times_71 : decode cX10_times 71 = .ok (.lstore 5, 2) := by decide +kernel
theorem dX10_times_73 : decode cX10_times 73 = .ok (.iinc 7 1, 3) := by decide +kernel
theorem dX10_times_76 : decode cX10_times 76 = .ok (.goto (-35), 3) := by decide +kernel
theorem dX10_times_79 : decode cX10_times 79 = .ok (.aload_n 0, 1) := by decide +kernel
theorem dX10_times_80 : decode cX10_times 80 = .ok (.getfield 32, 3) := by decide +kernel
theorem dX10_times_83 : decode cX10_times 83 = .ok (.iload 4, 2) := by decide +kernel
theorem dX10_times_85 : decode cX10_times 85 = .ok (.aload_n 0, 1) := by decide +kernel
theorem dX10_times_86 : decode cX10_times 86 = .ok (.lload 5, 2) := by decide +kernel
theorem dX10_times_88 : decode cX10_times 88 = .ok (.invokevirtual 135, 3) := by decide +kernel
theorem dX10_times_91 : decode cX10_times 91 = .ok (.iastore, 1) := by decide +kernel
theorem dX10_times_92 : decode cX10_times 92 = .ok (.iinc 4 1, 3) := by decide +kernel
theorem dX10_times_95 : decode cX10_times 95 = .ok (.goto (-66), 3) := by decide +kernel
theorem dX10_times_98 : decode cX10_times 98 = .ok (.aload_n 0, 1) := by decide +kernel
theorem dX10_times_99 : decode cX10_times 99 = .ok (.iload_n 3, 1) := by decide +kernel
theorem dX10_times_100 : decode cX10_times 100 = .ok (.invokevirtual 139, 3) := by decide +kernel
theorem dX10_times_103 : decode cX10_times 103 = .ok (.ireturn, 1) := by decide +kernel
theorem dX10_under_0 : decode cX10_under 0 = .ok (.aload_n 0, 1) := by decide +kernel
theorem dX10_under_1 : decode cX10_under 1 = .ok (.iload_n 1, 1) := by decide +kernel
theorem dX10_under_2 : decode cX10_under 2 = .ok (.invokevirtual 155, 3) := by decide +kernel
theorem dX10_under_5 : decode cX10_under 5 = .ok (.ifCond .ne 6, 3) := by decide +kernel
theorem dX10_under_8 : decode cX10_under 8 = .ok (.bipush (-101), 2) := by decide +kernel
theorem dX10_under_10 : decode cX10_under 10 = .ok (.ireturn, 1) := by decide +kernel
theorem dX10_under_11 : decode cX10_under 11 = .ok (.aload_n 0, 1) := by decide +kernel
theorem dX10_under_12 : decode cX10_under 12 = .ok (.iload_n 1, 1) := by decide +kernel
theorem dX10_under_13 : decode cX10_under 13 = .ok (.iconst 0, 1) := by decide +kernel
theorem dX10_under_14 : decode cX10_under 14 = .ok (.invokevirtual 161, 3) := by decide +kernel
theorem dX10_under_17 : decode cX10_under 17 = .ok (.ifCond .ne 9, 3) := by decide +kernel
theorem dX10_under_20 : decode cX10_under 20 = .ok (.aload_n 0, 1) := by decide +kernel
theorem dX10_under_21 : decode cX10_under 21 = .ok (.iconst 5, 1) := by decide +kernel
theorem dX10_under_22 : decode cX10_under 22 = .ok (.invokevirtual 129, 3) := by decide +kernel
theorem dX10_under_25 : decode cX10_under 25 = .ok (.ireturn, 1) := by decide +kernel
theorem dX10_under_26 : decode cX10_under 26 = .ok (.aload_n 0, 1) := by decide +kernel
theorem dX10_under_27 : decode cX10_under 27 = .ok (.getfield 26, 3) := by decide +kernel
theorem dX10_under_30 : decode cX10_under 30 = .ok (.iload_n 1, 1) := by decide +kernel
theorem dX10_under_31 : decode cX10_under 31 = .ok (.iaload, 1) := by decide +kernel
theorem dX10_under_32 : decode cX10_under 32 = .ok (.istore_n 2, 1) := by decide +kernel
theorem dX10_under_33 : decode cX10_under 33 = .ok (.aload_n 0, 1) := by decide +kernel
theorem dX10_under_34 : decode cX10_under 34 = .ok (.invokevirtual 145, 3) := by decide +kernel
theorem dX10_under_37 : decode cX10_under 37 = .ok (.aload_n 0, 1) := by decide +kernel
theorem dX10_under_38 : decode cX10_under 38 = .ok (.getfield 35, 3) := by decide +kernel
theorem dX10_under_41 : decode cX10_under 41 = .ok (.iconst 0, 1) := by decide +kernel
theorem dX10_under_42 : decode cX10_under 42 = .ok (.iconst 1, 1) := by decide +kernel
theorem dX10_under_43 : decode cX10_under 43 = .ok (.iastore, 1) := by decide +kernel
theorem dX10_under_44 : decode cX10_under 44 = .ok (.iconst 0, 1) := by decide +kernel
theorem dX10_under_45 : decode cX10_under 45 = .ok (.istore_n 3, 1) := by decide +kernel
theorem dX10_under_46 : decode cX10_under 46 = .ok (.iload_n 3, 1) := by decide +kernel
theorem dX10_under_47 : decode cX10_under 47 = .ok (.iload_n 2, 1) := by decide +kernel
theorem dX10_under_48 : decode cX10_under 48 = .ok (.if_icmp .gt 21, 3) := by decide +kernel
theorem dX10_under_51 : decode cX10_under 51 = .ok (.aload_n 0, 1) := by decide +kernel
theorem dX10_under_52 : decode cX10_under 52 = .ok (.getfield 38, 3) := by decide +kernel
theorem dX10_under_55 : decode cX10_under 55 = .ok (.iload_n 3, 1) := by decide +kernel
theorem dX10_under_56 : decode cX10_under 56 = .ok (.aload_n 0, 1) := by decide +kernel
theorem dX10_under_57 : decode cX10_under 57 = .ok (.iload_n 1, 1) := by decide +kernel
theorem dX10_under_58 : decode cX10_under 58 = .ok (.iload_n 3, 1) := by decide +kernel
theorem dX10_under_59 : decode cX10_under 59 = .ok (.invokevirtual 161, 3) := by decide +kernel
theorem dX10_under_62 : decode cX10_under 62 = .ok (.iastore, 1) := by decide +kernel
theorem dX10_under_63 : decode cX10_under 63 = .ok (.iinc 3 1, 3) := by decide +kernel
theorem dX10_under_66 : decode cX10_under 66 = .ok (.goto (-20), 3) := by decide +kernel
theorem dX10_under_69 : decode cX10_under 69 = .ok (.aload_n 0, 1) := by decide +kernel
theorem dX10_under_70 : decode cX10_under 70 = .ok (.aload_n 0, 1) := by decide +kernel
theorem dX10_under_71 : decode cX10_under 71 = .ok (.getfield 32, 3) := by decide +kernel
theorem dX10_under_74 : decode cX10_under 74 = .ok (.iload_n 2, 1) := by decide +kernel
theorem dX10_under_75 : decode cX10_under 75 = .ok (.invokevirtual 148, 3) := by decide +kernel
theorem dX10_under_78 : decode cX10_under 78 = .ok (.aload_n 0, 1) := by decide +kernel
theorem dX10_under_79 : decode cX10_under 79 = .ok (.iload_n 2, 1) := by decide +kernel
theorem dX10_under_80 : decode cX10_under 80 = .ok (.invokevirtual 139, 3) := by decide +kernel
theorem dX10_under_83 : decode cX10_under 83 = .ok (.ireturn, 1) := by decide +kernel
theorem dX10_moved_0 : decode cX10_moved 0 = .ok (.aload_n 0, 1) := by decide +kernel
theorem dX10_moved_1 : decode cX10_moved 1 = .ok (.iload_n 1, 1) := by decide +kernel
theorem dX10_moved_2 : decode cX10_moved 2 = .ok (.invokevirtual 155, 3) := by decide +kernel
theorem dX10_moved_5 : decode cX10_moved 5 = .ok (.ifCond .ne 6, 3) := by decide +kernel
theorem dX10_moved_8 : decode cX10_moved 8 = .ok (.bipush (-101), 2) := by decide +kernel
theorem dX10_moved_10 : decode cX10_moved 10 = .ok (.ireturn, 1) := by decide +kernel
theorem dX10_moved_11 : decode cX10_moved 11 = .ok (.iload_n 3, 1) := by decide +kernel
theorem dX10_moved_12 : decode cX10_moved 12 = .ok (.i2l, 1) := by decide +kernel
theorem dX10_moved_13 : decode cX10_moved 13 = .ok (.lconst 0, 1) := by decide +kernel
theorem dX10_moved_14 : decode cX10_moved 14 = .ok (.ldc2_w 133, 3) := by decide +kernel
theorem dX10_moved_17 : decode cX10_moved 17 = .ok (.invokestatic 107, 3) := by decide +kernel
theorem dX10_moved_20 : decode cX10_moved 20 = .ok (.ifCond .ne 6, 3) := by decide +kernel
theorem dX10_moved_23 : decode cX10_moved 23 = .ok (.bipush (-102), 2) := by decide +kernel
theorem dX10_moved_25 : decode cX10_moved 25 = .ok (.ireturn, 1) := by decide +kernel
theorem dX10_moved_26 : decode cX10_moved 26 = .ok (.aload_n 0, 1) := by decide +kernel
theorem dX10_moved_27 : decode cX10_moved 27 = .ok (.getfield 26, 3) := by decide +kernel
theorem dX10_moved_30 : decode cX10_moved 30 = .ok (.iload_n 1, 1) := by decide +kernel
theorem dX10_moved_31 : decode cX10_moved 31 = .ok (.iaload, 1) := by decide +kernel
theorem dX10_moved_32 : decode cX10_moved 32 = .ok (.istore 4, 2) := by decide +kernel
theorem dX10_moved_34 : decode cX10_moved 34 = .ok (.iconst 0, 1) := by decide +kernel
theorem dX10_moved_35 : decode cX10_moved 35 = .ok (.istore 5, 2) := by decide +kernel
theorem dX10_moved_37 : decode cX10_moved 37 = .ok (.iload 5, 2) := by decide +kernel
theorem dX10_moved_39 : decode cX10_moved 39 = .ok (.iload 4, 2) := by decide +kernel
theorem dX10_moved_41 : decode cX10_moved 41 = .ok (.if_icmp .gt 53, 3) := by decide +kernel
theorem dX10_moved_44 : decode cX10_moved 44 = .ok (.aload_n 0, 1) := by decide +kernel
theorem dX10_moved_45 : decode cX10_moved 45 = .ok (.getfield 32, 3) := by decide +kernel
theorem dX10_moved_48 : decode cX10_moved 48 = .ok (.iload 5, 2) := by decide +kernel
theorem dX10_moved_50 : decode cX10_moved 50 = .ok (.iload 5, 2) := by decide +kernel
theorem dX10_moved_52 : decode cX10_moved 52 = .ok (.iload_n 3, 1) := by decide +kernel
theorem dX10_moved_53 : decode cX10_moved 53 = .ok (.if_icmp .ge 7, 3) := by decide +kernel
theorem dX10_moved_56 : decode cX10_moved 56 = .ok (.iconst 0, 1) := by decide +kernel
theorem dX10_moved_57 : decode cX10_moved 57 = .ok (.goto 30, 3) := by decide +kernel
theorem dX10_moved_60 : decode cX10_moved 60 = .ok (.aload_n 0, 1) := by decide +kernel
theorem dX10_moved_61 : decode cX10_moved 61 = .ok (.aload_n 0, 1) := by decide +kernel
theorem dX10_moved_62 : decode cX10_moved 62 = .ok (.iload_n 1, 1) := by decide +kernel
theorem dX10_moved_63 : decode cX10_moved 63 = .ok (.iload 5, 2) := by decide +kernel
theorem dX10_moved_65 : decode cX10_moved 65 = .ok (.iload_n 3, 1) := by decide +kernel
theorem dX10_moved_66 : decode cX10_moved 66 = .ok (.isub, 1) := by decide +kernel
theorem dX10_moved_67 : decode cX10_moved 67 = .ok (.invokevirtual 161, 3) := by decide +kernel
theorem dX10_moved_70 : decode cX10_moved 70 = .ok (.aload_n 0, 1) := by decide +kernel
theorem dX10_moved_71 : decode cX10_moved 71 = .ok (.aload_n 0, 1) := by decide +kernel
theorem dX10_moved_72 : decode cX10_moved 72 = .ok (.iload_n 2, 1) := by decide +kernel
theorem dX10_moved_73 : decode cX10_moved 73 = .ok (.i2l, 1) := by decide +kernel
theorem dX10_moved_74 : decode cX10_moved 74 = .ok (.invokevirtual 135, 3) := by decide +kernel
theorem dX10_moved_77 : decode cX10_moved 77 = .ok (.iload 5, 2) := by decide +kernel
theorem dX10_moved_79 : decode cX10_moved 79 = .ok (.iload_n 3, 1) := by decide +kernel
theorem dX10_moved_80 : decode cX10_moved 80 = .ok (.isub, 1) := by decide +kernel
theorem dX10_moved_81 : decode cX10_moved 81 = .ok (.invokevirtual 164, 3) := by decide +kernel
theorem dX10_moved_84 : decode cX10_moved 84 = .ok (.invokevirtual 99, 3) := by decide +kernel
theorem dX10_moved_87 : decode cX10_moved 87 = .ok (.iastore, 1) := by decide +kernel
theorem dX10_moved_88 : decode cX10_moved 88 = .ok (.iinc 5 1, 3) := by decide +kernel
theorem dX10_moved_91 : decode cX10_moved 91 = .ok (.goto (-54), 3) := by decide +kernel
theorem dX10_moved_94 : decode cX10_moved 94 = .ok (.aload_n 0, 1) := by decide +kernel
theorem dX10_moved_95 : decode cX10_moved 95 = .ok (.iload 4, 2) := by decide +kernel
theorem dX10_moved_97 : decode cX10_moved 97 = .ok (.invokevirtual 139, 3) := by decide +kernel
theorem dX10_moved_100 : decode cX10_moved 100 = .ok (.ireturn, 1) := by decide +kernel
theorem dX10_number_0 : decode cX10_number 0 = .ok (.aload_n 0, 1) := by decide +kernel
theorem dX10_number_1 : decode cX10_number 1 = .ok (.iload_n 1, 1) := by decide +kernel
theorem dX10_number_2 : decode cX10_number 2 = .ok (.invokevirtual 155, 3) := by decide +kernel
theorem dX10_number_5 : decode cX10_number 5 = .ok (.ifCond .ne 8, 3) := by decide +kernel
theorem dX10_number_8 : decode cX10_number 8 = .ok (.bipush (-101), 2) := by decide +kernel
theorem dX10_number_10 : decode cX10_number 10 = .ok (.goto 29, 3) := by decide +kernel
theorem dX10_number_13 : decode cX10_number 13 = .ok (.iload_n 2, 1) := by decide +kernel
theorem dX10_number_14 : decode cX10_number 14 = .ok (.i2l, 1) := by decide +kernel
theorem dX10_number_15 : decode cX10_number 15 = .ok (.lconst 0, 1) := by decide +kernel
theorem dX10_number_16 : decode cX10_number 16 = .ok (.aload_n 0, 1) := by decide +kernel
theorem dX10_number_17 : decode cX10_number 17 = .ok (.getfield 26, 3) := by decide +kernel
theorem dX10_number_20 : decode cX10_number 20 = .ok (.iload_n 1, 1) := by decide +kernel
theorem dX10_number_21 : decode cX10_number 21 = .ok (.iaload, 1) := by decide +kernel
theorem dX10_number_22 : decode cX10_number 22 = .ok (.i2l, 1) := by decide +kernel
theorem dX10_number_23 : decode cX10_number 23 = .ok (.invokestatic 107, 3) := by decide +kernel
theorem dX10_number_26 : decode cX10_number 26 = .ok (.ifCond .eq 12, 3) := by decide +kernel
theorem dX10_number_29 : decode cX10_number 29 = .ok (.aload_n 0, 1) := by decide +kernel
theorem dX10_number_30 : decode cX10_number 30 = .ok (.iload_n 1, 1) := by decide +kernel
theorem dX10_number_31 : decode cX10_number 31 = .ok (.iload_n 2, 1) := by decide +kernel
theorem dX10_number_32 : decode cX10_number 32 = .ok (.invokevirtual 161, 3) := by decide +kernel
theorem dX10_number_35 : decode cX10_number 35 = .ok (.goto 4, 3) := by decide +kernel
theorem dX10_number_38 : decode cX10_number 38 = .ok (.iconst (-1), 1) := by decide +kernel
theorem dX10_number_39 : decode cX10_number 39 = .ok (.ireturn, 1) := by decide +kernel
theorem dX10_length_0 : decode cX10_length 0 = .ok (.aload_n 0, 1) := by decide +kernel
theorem dX10_length_1 : decode cX10_length 1 = .ok (.iload_n 1, 1) := by decide +kernel
theorem dX10_length_2 : decode cX10_length 2 = .ok (.invokevirtual 155, 3) := by decide +kernel
theorem dX10_length_5 : decode cX10_length 5 = .ok (.ifCond .eq 12, 3) := by decide +kernel
theorem dX10_length_8 : decode cX10_length 8 = .ok (.aload_n 0, 1) := by decide +kernel
theorem dX10_length_9 : decode cX10_length 9 = .ok (.getfield 26, 3) := by decide +kernel
theorem dX10_length_12 : decode cX10_length 12 = .ok (.iload_n 1, 1) := by decide +kernel
theorem dX10_length_13 : decode cX10_length 13 = .ok (.iaload, 1) := by decide +kernel
theorem dX10_length_14 : decode cX10_length 14 = .ok (.goto 5, 3) := by decide +kernel
theorem dX10_length_17 : decode cX10_length 17 = .ok (.bipush (-101), 2) := by decide +kernel
theorem dX10_length_19 : decode cX10_length 19 = .ok (.ireturn, 1) := by decide +kernel
theorem dX10_clear_0 : decode cX10_clear 0 = .ok (.aload_n 0, 1) := by decide +kernel
theorem dX10_clear_1 : decode cX10_clear 1 = .ok (.getfield 115, 3) := by decide +kernel
theorem dX10_clear_4 : decode cX10_clear 4 = .ok (.istore_n 1, 1) := by decide +kernel
theorem dX10_clear_5 : decode cX10_clear 5 = .ok (.aload_n 0, 1) := by decide +kernel
theorem dX10_clear_6 : decode cX10_clear 6 = .ok (.iconst 0, 1) := by decide +kernel
theorem dX10_clear_7 : decode cX10_clear 7 = .ok (.putfield 115, 3) := by decide +kernel
theorem dX10_clear_10 : decode cX10_clear 10 = .ok (.iload_n 1, 1) := by decide +kernel
theorem dX10_clear_11 : decode cX10_clear 11 = .ok (.ireturn, 1) := by decide +kernel
theorem dX10_solve_0 : decode cX10_solve 0 = .ok (.iload_n 1, 1) := by decide +kernel
theorem dX10_solve_1 : decode cX10_solve 1 = .ok (.iconst 1, 1) := by decide +kernel
theorem dX10_solve_2 : decode cX10_solve 2 = .ok (.iadd, 1) := by decide +kernel
theorem dX10_solve_3 : decode cX10_solve 3 = .ok (.istore_n 2, 1) := by decide +kernel
theorem dX10_solve_4 : decode cX10_solve 4 = .ok (.iconst 0, 1) := by decide +kernel
theorem dX10_solve_5 : decode cX10_solve 5 = .ok (.istore_n 3, 1) := by decide +kernel
theorem dX10_solve_6 : decode cX10_solve 6 = .ok (.iconst (-1), 1) := by decide +kernel
theorem dX10_solve_7 : decode cX10_solve 7 = .ok (.istore 4, 2) := by decide +kernel
theorem dX10_solve_9 : decode cX10_solve 9 = .ok (.iconst 0, 1) := by decide +kernel
theorem dX10_solve_10 : decode cX10_solve 10 = .ok (.istore 5, 2) := by decide +kernel
theorem dX10_solve_12 : decode cX10_solve 12 = .ok (.iload 5, 2) := by decide +kernel
theorem dX10_solve_14 : decode cX10_solve 14 = .ok (.iload_n 2, 1) := by decide +kernel
theorem dX10_solve_15 : decode cX10_solve 15 = .ok (.if_icmp .ge 309, 3) := by decide +kernel
theorem dX10_solve_18 : decode cX10_solve 18 = .ok (.iload_n 3, 1) := by decide +kernel
theorem dX10_solve_19 : decode cX10_solve 19 = .ok (.istore 6, 2) := by decide +kernel
theorem dX10_solve_21 : decode cX10_solve 21 = .ok (.iload 6, 2) := by decide +kernel
theorem dX10_solve_23 : decode cX10_solve 23 = .ok (.iload_n 1, 1) := by decide +kernel
theorem dX10_solve_24 : decode cX10_solve 24 = .ok (.if_icmp .ge 25, 3) := by decide +kernel
theorem dX10_solve_27 : decode cX10_solve 27 = .ok (.aload_n 0, 1) := by decide +kernel
theorem dX10_solve_28 : decode cX10_solve 28 = .ok (.getfield 41, 3) := by decide +kernel
theorem dX10_solve_31 : decode cX10_solve 31 = .ok (.bipush 44, 2) := by decide +kernel
theorem dX10_solve_33 : decode cX10_solve 33 = .ok (.iload 6, 2) := by decide +kernel
theorem dX10_solve_35 : decode cX10_solve 35 = .ok (.imul, 1) := by decide +kernel
theorem dX10_solve_36 : decode cX10_solve 36 = .ok (.iload 5, 2) := by decide +kernel
theorem dX10_solve_38 : decode cX10_solve 38 = .ok (.iadd, 1) := by decide +kernel
theorem dX10_solve_39 : decode cX10_solve 39 = .ok (.iaload, 1) := by decide +kernel
theorem dX10_solve_40 : decode cX10_solve 40 = .ok (.ifCond .ne 9, 3) := by decide +kernel
theorem dX10_solve_43 : decode cX10_solve 43 = .ok (.iinc 6 1, 3) := by decide +kernel
theorem dX10_solve_46 : decode cX10_solve 46 = .ok (.goto (-25), 3) := by decide +kernel
theorem dX10_solve_49 : decode cX10_solve 49 = .ok (.aload_n 0, 1) := by decide +kernel
theorem dX10_solve_50 : decode cX10_solve 50 = .ok (.getfield 44, 3) := by decide +kernel
theorem dX10_solve_53 : decode cX10_solve 53 = .ok (.iload 5, 2) := by decide +kernel
theorem dX10_solve_55 : decode cX10_solve 55 = .ok (.iconst (-1), 1) := by decide +kernel
theorem dX10_solve_56 : decode cX10_solve 56 = .ok (.iastore, 1) := by decide +kernel
theorem dX10_solve_57 : decode cX10_solve 57 = .ok (.iload 6, 2) := by decide +kernel
theorem dX10_solve_59 : decode cX10_solve 59 = .ok (.iload_n 1, 1) := by decide +kernel
theorem dX10_solve_60 : decode cX10_solve 60 = .ok (.if_icmp .ne 10, 3) := by decide +kernel
theorem dX10_solve_63 : decode cX10_solve 63 = .ok (.iload 5, 2) := by decide +kernel
theorem dX10_solve_65 : decode cX10_solve 65 = .ok (.istore 4, 2) := by decide +kernel
theorem dX10_solve_67 : decode cX10_solve 67 = .ok (.goto 251, 3) := by decide +kernel
theorem dX10_solve_70 : decode cX10_solve 70 = .ok (.iconst 0, 1) := by decide +kernel
theorem dX10_solve_71 : decode cX10_solve 71 = .ok (.istore 7, 2) := by decide +kernel
theorem dX10_solve_73 : decode cX10_solve 73 = .ok (.iload 7, 2) := by decide +kernel
theorem dX10_solve_75 : decode cX10_solve 75 = .ok (.iload_n 2, 1) := by decide +kernel
theorem dX10_solve_76 : decode cX10_solve 76 = .ok (.if_icmp .ge 63, 3) := by decide +kernel
theorem dX10_solve_79 : decode cX10_solve 79 = .ok (.aload_n 0, 1) := by decide +kernel
theorem dX10_solve_80 : decode cX10_solve 80 = .ok (.getfield 41, 3) := by decide +kernel
theorem dX10_solve_83 : decode cX10_solve 83 = .ok (.bipush 44, 2) := by decide +kernel
theorem dX10_solve_85 : decode cX10_solve 85 = .ok (.iload 6, 2) := by decide +kernel
theorem dX10_solve_87 : decode cX10_solve 87 = .ok (.imul, 1) := by decide +kernel
theorem dX10_solve_88 : decode cX10_solve 88 = .ok (.iload 7, 2) := by decide +kernel
theorem dX10_solve_90 : decode cX10_solve 90 = .ok (.iadd, 1) := by decide +kernel
theorem dX10_solve_91 : decode cX10_solve 91 = .ok (.iaload, 1) := by decide +kernel
theorem dX10_solve_92 : decode cX10_solve 92 = .ok (.istore 8, 2) := by decide +kernel
theorem dX10_solve_94 : decode cX10_solve 94 = .ok (.aload_n 0, 1) := by decide +kernel
theorem dX10_solve_95 : decode cX10_solve 95 = .ok (.getfield 41, 3) := by decide +kernel
theorem dX10_solve_98 : decode cX10_solve 98 = .ok (.bipush 44, 2) := by decide +kernel
theorem dX10_solve_100 : decode cX10_solve 100 = .ok (.iload 6, 2) := by decide +kernel
theorem dX10_solve_102 : decode cX10_solve 102 = .ok (.imul, 1) := by decide +kernel
theorem dX10_solve_103 : decode cX10_solve 103 = .ok (.iload 7, 2) := by decide +kernel
theorem dX10_solve_105 : decode cX10_solve 105 = .ok (.iadd, 1) := by decide +kernel
theorem dX10_solve_106 : decode cX10_solve 106 = .ok (.aload_n 0, 1) := by decide +kernel
theorem dX10_solve_107 : decode cX10_solve 107 = .ok (.getfield 41, 3) := by decide +kernel
theorem dX10_solve_110 : decode cX10_solve 110 = .ok (.bipush 44, 2) := by decide +kernel
theorem dX10_solve_112 : decode cX10_solve 112 = .ok (.iload_n 3, 1) := by decide +kernel
theorem dX10_solve_113 : decode cX10_solve 113 = .ok (.imul, 1) := by decide +kernel
theorem dX10_solve_114 : decode cX10_solve 114 = .ok (.iload 7, 2) := by decide +kernel
theorem dX10_solve_116 : decode cX10_solve 116 = .ok (.iadd, 1) := by decide +kernel
theorem dX10_solve_117 : decode cX10_solve 117 = .ok (.iaload, 1) := by decide +kernel
theorem dX10_solve_118 : decode cX10_solve 118 = .ok (.iastore, 1) := by decide +kernel
theorem dX10_solve_119 : decode cX10_solve 119 = .ok (.aload_n 0, 1) := by decide +kernel
theorem dX10_solve_120 : decode cX10_solve 120 = .ok (.getfield 41, 3) := by decide +kernel
theorem dX10_solve_123 : decode cX10_solve 123 = .ok (.bipush 44, 2) := by decide +kernel
theorem dX10_solve_125 : decode cX10_solve 125 = .ok (.iload_n 3, 1) := by decide +kernel
theorem dX10_solve_126 : decode cX10_solve 126 = .ok (.imul, 1) := by decide +kernel
theorem dX10_solve_127 : decode cX10_solve 127 = .ok (.iload 7, 2) := by decide +kernel
theorem dX10_solve_129 : decode cX10_solve 129 = .ok (.iadd, 1) := by decide +kernel
theorem dX10_solve_130 : decode cX10_solve 130 = .ok (.iload 8, 2) := by decide +kernel
theorem dX10_solve_132 : decode cX10_solve 132 = .ok (.iastore, 1) := by decide +kernel
theorem dX10_solve_133 : decode cX10_solve 133 = .ok (.iinc 7 1, 3) := by decide +kernel
theorem dX10_solve_136 : decode cX10_solve 136 = .ok (.goto (-63), 3) := by decide +kernel
theorem dX10_solve_139 : decode cX10_solve 139 = .ok (.aload_n 0, 1) := by decide +kernel
theorem dX10_solve_140 : decode cX10_solve 140 = .ok (.aload_n 0, 1) := by decide +kernel
theorem dX10_solve_141 : decode cX10_solve 141 = .ok (.getfield 41, 3) := by decide +kernel
theorem dX10_solve_144 : decode cX10_solve 144 = .ok (.bipush 44, 2) := by decide +kernel
theorem dX10_solve_146 : decode cX10_solve 146 = .ok (.iload_n 3, 1) := by decide +kernel
theorem dX10_solve_147 : decode cX10_solve 147 = .ok (.imul, 1) := by decide +kernel
theorem dX10_solve_148 : decode cX10_solve 148 = .ok (.iload 5, 2) := by decide +kernel
theorem dX10_solve_150 : decode cX10_solve 150 = .ok (.iadd, 1) := by decide +kernel
theorem dX10_solve_151 : decode cX10_solve 151 = .ok (.iaload, 1) := by decide +kernel
theorem dX10_solve_152 : decode cX10_solve 152 = .ok (.invokevirtual 142, 3) := by decide +kernel
theorem dX10_solve_155 : decode cX10_solve 155 = .ok (.istore 7, 2) := by decide +kernel
theorem dX10_solve_157 : decode cX10_solve 157 = .ok (.iconst 0, 1) := by decide +kernel
theorem dX10_solve_158 : decode cX10_solve 158 = .ok (.istore 8, 2) := by decide +kernel
theorem dX10_solve_160 : decode cX10_solve 160 = .ok (.iload 8, 2) := by decide +kernel
theorem dX10_solve_162 : decode cX10_solve 162 = .ok (.iload_n 2, 1) := by decide +kernel
theorem dX10_solve_163 : decode cX10_solve 163 = .ok (.if_icmp .ge 39, 3) := by decide +kernel
theorem dX10_solve_166 : decode cX10_solve 166 = .ok (.aload_n 0, 1) := by decide +kernel
theorem dX10_solve_167 : decode cX10_solve 167 = .ok (.getfield 41, 3) := by decide +kernel
theorem dX10_solve_170 : decode cX10_solve 170 = .ok (.bipush 44, 2) := by decide +kernel
theorem dX10_solve_172 : decode cX10_solve 172 = .ok (.iload_n 3, 1) := by decide +kernel
theorem dX10_solve_173 : decode cX10_solve 173 = .ok (.imul, 1) := by decide +kernel
theorem dX10_solve_174 : decode cX10_solve 174 = .ok (.iload 8, 2) := by decide +kernel
theorem dX10_solve_176 : decode cX10_solve 176 = .ok (.iadd, 1) := by decide +kernel
theorem dX10_solve_177 : decode cX10_solve 177 = .ok (.aload_n 0, 1) := by decide +kernel
theorem dX10_solve_178 : decode cX10_solve 178 = .ok (.aload_n 0, 1) := by decide +kernel
theorem dX10_solve_179 : decode cX10_solve 179 = .ok (.getfield 41, 3) := by decide +kernel
theorem dX10_solve_182 : decode cX10_solve 182 = .ok (.bipush 44, 2) := by decide +kernel
theorem dX10_solve_184 : decode cX10_solve 184 = .ok (.iload_n 3, 1) := by decide +kernel
theorem dX10_solve_185 : decode cX10_solve 185 = .ok (.imul, 1) := by decide +kernel
theorem dX10_solve_186 : decode cX10_solve 186 = .ok (.iload 8, 2) := by decide +kernel
theorem dX10_solve_188 : decode cX10_solve 188 = .ok (.iadd, 1) := by decide +kernel
theorem dX10_solve_189 : decode cX10_solve 189 = .ok (.iaload, 1) := by decide +kernel
theorem dX10_solve_190 : decode cX10_solve 190 = .ok (.iload 7, 2) := by decide +kernel
theorem dX10_solve_192 : decode cX10_solve 192 = .ok (.invokevirtual 99, 3) := by decide +kernel
theorem dX10_solve_195 : decode cX10_solve 195 = .ok (.iastore, 1) := by decide +kernel
theorem dX10_solve_196 : decode cX10_solve 196 = .ok (.iinc 8 1, 3) := by decide +kernel
theorem dX10_solve_199 : decode cX10_solve 199 = .ok (.goto (-39), 3) := by decide +kernel
theorem dX10_solve_202 : decode cX10_solve 202 = .ok (.iconst 0, 1) := by decide +kernel
theorem dX10_solve_203 : decode cX10_solve 203 = .ok (.istore 8, 2) := by decide +kernel
theorem dX10_solve_205 : decode cX10_solve 205 = .ok (.iload 8, 2) := by decide +kernel
theorem dX10_solve_207 : decode cX10_solve 207 = .ok (.iload_n 1, 1) := by decide +kernel
theorem dX10_solve_208 : decode cX10_solve 208 = .ok (.if_icmp .ge 99, 3) := by decide +kernel
theorem dX10_solve_211 : decode cX10_solve 211 = .ok (.aload_n 0, 1) := by decide +kernel
theorem dX10_solve_212 : decode cX10_solve 212 = .ok (.getfield 41, 3) := by decide +kernel
theorem dX10_solve_215 : decode cX10_solve 215 = .ok (.bipush 44, 2) := by decide +kernel
theorem dX10_solve_217 : decode cX10_solve 217 = .ok (.iload 8, 2) := by decide +kernel
theorem dX10_solve_219 : decode cX10_solve 219 = .ok (.imul, 1) := by decide +kernel
theorem dX10_solve_220 : decode cX10_solve 220 = .ok (.iload 5, 2) := by decide +kernel
theorem dX10_solve_222 : decode cX10_solve 222 = .ok (.iadd, 1) := by decide +kernel
theorem dX10_solve_223 : decode cX10_solve 223 = .ok (.iaload, 1) := by decide +kernel
theorem dX10_solve_224 : decode cX10_solve 224 = .ok (.istore 9, 2) := by decide +kernel
theorem dX10_solve_226 : decode cX10_solve 226 = .ok (.iconst 0, 1) := by decide +kernel
theorem dX10_solve_227 : decode cX10_solve 227 = .ok (.istore 10, 2) := by decide +kernel
theorem dX10_solve_229 : decode cX10_solve 229 = .ok (.iload 10, 2) := by decide +kernel
theorem dX10_solve_231 : decode cX10_solve 231 = .ok (.iload_n 2, 1) := by decide +kernel
theorem dX10_solve_232 : decode cX10_solve 232 = .ok (.if_icmp .ge 69, 3) := by decide +kernel
theorem dX10_solve_235 : decode cX10_solve 235 = .ok (.iload 8, 2) := by decide +kernel
theorem dX10_solve_237 : decode cX10_solve 237 = .ok (.iload_n 3, 1) := by decide +kernel
theorem dX10_solve_238 : decode cX10_solve 238 = .ok (.if_icmp .eq 63, 3) := by decide +kernel
theorem dX10_solve_241 : decode cX10_solve 241 = .ok (.iload 9, 2) := by decide +kernel
theorem dX10_solve_243 : decode cX10_solve 243 = .ok (.ifCond .eq 58, 3) := by decide +kernel
theorem dX10_solve_246 : decode cX10_solve 246 = .ok (.aload_n 0, 1) := by decide +kernel
theorem dX10_solve_247 : decode cX10_solve 247 = .ok (.getfield 41, 3) := by decide +kernel
theorem dX10_solve_250 : decode cX10_solve 250 = .ok (.bipush 44, 2) := by decide +kernel
theorem dX10_solve_252 : decode cX10_solve 252 = .ok (.iload 8, 2) := by decide +kernel
theorem dX10_solve_254 : decode cX10_solve 254 = .ok (.imul, 1) := by decide +kernel
theorem dX10_solve_255 : decode cX10_solve 255 = .ok (.iload 10, 2) := by decide +kernel
theorem dX10_solve_257 : decode cX10_solve 257 = .ok (.iadd, 1) := by decide +kernel
theorem dX10_solve_258 : decode cX10_solve 258 = .ok (.aload_n 0, 1) := by decide +kernel
theorem dX10_solve_259 : decode cX10_solve 259 = .ok (.aload_n 0, 1) := by decide +kernel
theorem dX10_solve_260 : decode cX10_solve 260 = .ok (.getfield 41, 3) := by decide +kernel
theorem dX10_solve_263 : decode cX10_solve 263 = .ok (.bipush 44, 2) := by decide +kernel
theorem dX10_solve_265 : decode cX10_solve 265 = .ok (.iload 8, 2) := by decide +kernel
theorem dX10_solve_267 : decode cX10_solve 267 = .ok (.imul, 1) := by decide +kernel
theorem dX10_solve_268 : decode cX10_solve 268 = .ok (.iload 10, 2) := by decide +kernel
theorem dX10_solve_270 : decode cX10_solve 270 = .ok (.iadd, 1) := by decide +kernel
theorem dX10_solve_271 : decode cX10_solve 271 = .ok (.iaload, 1) := by decide +kernel
theorem dX10_solve_272 : decode cX10_solve 272 = .ok (.i2l, 1) := by decide +kernel
theorem dX10_solve_273 : decode cX10_solve 273 = .ok (.iload 9, 2) := by decide +kernel
theorem dX10_solve_275 : decode cX10_solve 275 = .ok (.i2l, 1) := by decide +kernel
theorem dX10_solve_276 : decode cX10_solve 276 = .ok (.aload_n 0, 1) := by decide +kernel
theorem dX10_solve_277 : decode cX10_solve 277 = .ok (.getfield 41, 3) := by decide +kernel
theorem dX10_solve_280 : decode cX10_solve 280 = .ok (.bipush 44, 2) := by decide +kernel
theorem dX10_solve_282 : decode cX10_solve 282 = .ok (.iload_n 3, 1) := by decide +kernel
theorem dX10_solve_283 : decode cX10_solve 283 = .ok (.imul, 1) := by decide +kernel
theorem dX10_solve_284 : decode cX10_solve 284 = .ok (.iload 10, 2) := by decide +kernel
theorem dX10_solve_286 : decode cX10_solve 286 = .ok (.iadd, 1) := by decide +kernel
theorem dX10_solve_287 : decode cX10_solve 287 = .ok (.iaload, 1) := by decide +kernel
theorem dX10_solve_288 : decode cX10_solve 288 = .ok (.i2l, 1) := by decide +kernel
theorem dX10_solve_289 : decode cX10_solve 289 = .ok (.lmul, 1) := by decide +kernel
theorem dX10_solve_290 : decode cX10_solve 290 = .ok (.lsub, 1) := by decide +kernel
theorem dX10_solve_291 : decode cX10_solve 291 = .ok (.invokevirtual 135, 3) := by decide +kernel
theorem dX10_solve_294 : decode cX10_solve 294 = .ok (.iastore, 1) := by decide +kernel
theorem dX10_solve_295 : decode cX10_solve 295 = .ok (.iinc 10 1, 3) := by decide +kernel
theorem dX10_solve_298 : decode cX10_solve 298 = .ok (.goto (-69), 3) := by decide +kernel
theorem dX10_solve_301 : decode cX10_solve 301 = .ok (.iinc 8 1, 3) := by decide +kernel
theorem dX10_solve_304 : decode cX10_solve 304 = .ok (.goto (-99), 3) := by decide +kernel
theorem dX10_solve_307 : decode cX10_solve 307 = .ok (.aload_n 0, 1) := by decide +kernel
theorem dX10_solve_308 : decode cX10_solve 308 = .ok (.getfield 44, 3) := by decide +kernel
theorem dX10_solve_311 : decode cX10_solve 311 = .ok (.iload 5, 2) := by decide +kernel
theorem dX10_solve_313 : decode cX10_solve 313 = .ok (.iload_n 3, 1) := by decide +kernel
theorem dX10_solve_314 : decode cX10_solve 314 = .ok (.iastore, 1) := by decide +kernel
theorem dX10_solve_315 : decode cX10_solve 315 = .ok (.iinc 3 1, 3) := by decide +kernel
theorem dX10_solve_318 : decode cX10_solve 318 = .ok (.iinc 5 1, 3) := by decide +kernel
theorem dX10_solve_321 : decode cX10_solve 321 = .ok (.goto (-309), 3) := by decide +kernel
theorem dX10_solve_324 : decode cX10_solve 324 = .ok (.iconst 0, 1) := by decide +kernel
theorem dX10_solve_325 : decode cX10_solve 325 = .ok (.istore 5, 2) := by decide +kernel
theorem dX10_solve_327 : decode cX10_solve 327 = .ok (.iload 5, 2) := by decide +kernel
theorem dX10_solve_329 : decode cX10_solve 329 = .ok (.iload_n 2, 1) := by decide +kernel
theorem dX10_solve_330 : decode cX10_solve 330 = .ok (.if_icmp .ge 66, 3) := by decide +kernel
theorem dX10_solve_333 : decode cX10_solve 333 = .ok (.aload_n 0, 1) := by decide +kernel
theorem dX10_solve_334 : decode cX10_solve 334 = .ok (.getfield 47, 3) := by decide +kernel
theorem dX10_solve_337 : decode cX10_solve 337 = .ok (.iload 5, 2) := by decide +kernel
theorem dX10_solve_339 : decode cX10_solve 339 = .ok (.iload 5, 2) := by decide +kernel
theorem dX10_solve_341 : decode cX10_solve 341 = .ok (.iload 4, 2) := by decide +kernel
theorem dX10_solve_343 : decode cX10_solve 343 = .ok (.if_icmp .ne 7, 3) := by decide +kernel
theorem dX10_solve_346 : decode cX10_solve 346 = .ok (.iconst 1, 1) := by decide +kernel
theorem dX10_solve_347 : decode cX10_solve 347 = .ok (.goto 42, 3) := by decide +kernel
theorem dX10_solve_350 : decode cX10_solve 350 = .ok (.aload_n 0, 1) := by decide +kernel
theorem dX10_solve_351 : decode cX10_solve 351 = .ok (.getfield 44, 3) := by decide +kernel
theorem dX10_solve_354 : decode cX10_solve 354 = .ok (.iload 5, 2) := by decide +kernel
theorem dX10_solve_356 : decode cX10_solve 356 = .ok (.iaload, 1) := by decide +kernel
theorem dX10_solve_357 : decode cX10_solve 357 = .ok (.iconst (-1), 1) := by decide +kernel
theorem dX10_solve_358 : decode cX10_solve 358 = .ok (.if_icmp .ne 7, 3) := by decide +kernel
theorem dX10_solve_361 : decode cX10_solve 361 = .ok (.iconst 0, 1) := by decide +kernel
theorem dX10_solve_362 : decode cX10_solve 362 = .ok (.goto 27, 3) := by decide +kernel
theorem dX10_solve_365 : decode cX10_solve 365 = .ok (.aload_n 0, 1) := by decide +kernel
theorem dX10_solve_366 : decode cX10_solve 366 = .ok (.aload_n 0, 1) := by decide +kernel
theorem dX10_solve_367 : decode cX10_solve 367 = .ok (.getfield 41, 3) := by decide +kernel
theorem dX10_solve_370 : decode cX10_solve 370 = .ok (.bipush 44, 2) := by decide +kernel
theorem dX10_solve_372 : decode cX10_solve 372 = .ok (.aload_n 0, 1) := by decide +kernel
theorem dX10_solve_373 : decode cX10_solve 373 = .ok (.getfield 44, 3) := by decide +kernel
theorem dX10_solve_376 : decode cX10_solve 376 = .ok (.iload 5, 2) := by decide +kernel
theorem dX10_solve_378 : decode cX10_solve 378 = .ok (.iaload, 1) := by decide +kernel
theorem dX10_solve_379 : decode cX10_solve 379 = .ok (.imul, 1) := by decide +kernel
theorem dX10_solve_380 : decode cX10_solve 380 = .ok (.iload 4, 2) := by decide +kernel
theorem dX10_solve_382 : decode cX10_solve 382 = .ok (.iadd, 1) := by decide +kernel
theorem dX10_solve_383 : decode cX10_solve 383 = .ok (.iaload, 1) := by decide +kernel
theorem dX10_solve_384 : decode cX10_solve 384 = .ok (.ineg, 1) := by decide +kernel
theorem dX10_solve_385 : decode cX10_solve 385 = .ok (.i2l, 1) := by decide +kernel
theorem dX10_solve_386 : decode cX10_solve 386 = .ok (.invokevirtual 135, 3) := by decide +kernel
theorem dX10_solve_389 : decode cX10_solve 389 = .ok (.iastore, 1) := by decide +kernel
theorem dX10_solve_390 : decode cX10_solve 390 = .ok (.iinc 5 1, 3) := by decide +kernel
theorem dX10_solve_393 : decode cX10_solve 393 = .ok (.goto (-66), 3) := by decide +kernel
theorem dX10_solve_396 : decode cX10_solve 396 = .ok (.return_, 1) := by decide +kernel
theorem dX10_degreeOf_0 : decode cX10_degreeOf 0 = .ok (.iload_n 1, 1) := by decide +kernel
theorem dX10_degreeOf_1 : decode cX10_degreeOf 1 = .ok (.istore_n 2, 1) := by decide +kernel
theorem dX10_degreeOf_2 : decode cX10_degreeOf 2 = .ok (.iload_n 2, 1) := by decide +kernel
theorem dX10_degreeOf_3 : decode cX10_degreeOf 3 = .ok (.ifCond .lt 15, 3) := by decide +kernel
theorem dX10_degreeOf_6 : decode cX10_degreeOf 6 = .ok (.aload_n 0, 1) := by decide +kernel
theorem dX10_degreeOf_7 : decode cX10_degreeOf 7 = .ok (.iload_n 2, 1) := by decide +kernel
theorem dX10_degreeOf_8 : decode cX10_degreeOf 8 = .ok (.iaload, 1) := by decide +kernel
theorem dX10_degreeOf_9 : decode cX10_degreeOf 9 = .ok (.ifCond .ne 9, 3) := by decide +kernel
theorem dX10_degreeOf_12 : decode cX10_degreeOf 12 = .ok (.iinc 2 (-1), 3) := by decide +kernel
theorem dX10_degreeOf_15 : decode cX10_degreeOf 15 = .ok (.goto (-13), 3) := by decide +kernel
theorem dX10_degreeOf_18 : decode cX10_degreeOf 18 = .ok (.iload_n 2, 1) := by decide +kernel
theorem dX10_degreeOf_19 : decode cX10_degreeOf 19 = .ok (.ireturn, 1) := by decide +kernel
theorem dX10_clearResult_0 : decode cX10_clearResult 0 = .ok (.iconst 0, 1) := by decide +kernel
theorem dX10_clearResult_1 : decode cX10_clearResult 1 = .ok (.istore_n 1, 1) := by decide +kernel
theorem dX10_clearResult_2 : decode cX10_clearResult 2 = .ok (.iload_n 1, 1) := by decide +kernel
theorem dX10_clearResult_3 : decode cX10_clearResult 3 = .ok (.bipush 46, 2) := by decide +kernel
theorem dX10_clearResult_5 : decode cX10_clearResult 5 = .ok (.if_icmp .ge 23, 3) := by decide +kernel
theorem dX10_clearResult_8 : decode cX10_clearResult 8 = .ok (.aload_n 0, 1) := by decide +kernel
theorem dX10_clearResult_9 : decode cX10_clearResult 9 = .ok (.getfield 50, 3) := by decide +kernel
theorem dX10_clearResult_12 : decode cX10_clearResult 12 = .ok (.iload_n 1, 1) := by decide +kernel
theorem dX10_clearResult_13 : decode cX10_clearResult 13 = .ok (.iconst 0, 1) := by decide +kernel
theorem dX10_clearResult_14 : decode cX10_clearResult 14 = .ok (.iastore, 1) := by decide +kernel
theorem dX10_clearResult_15 : decode cX10_clearResult 15 = .ok (.aload_n 0, 1) := by decide +kernel
theorem dX10_clearResult_16 : decode cX10_clearResult 16 = .ok (.getfield 53, 3) := by decide +kernel
theorem dX10_clearResult_19 : decode cX10_clearResult 19 = .ok (.iload_n 1, 1) := by decide +kernel
theorem dX10_clearResult_20 : decode cX10_clearResult 20 = .ok (.iconst 0, 1) := by decide +kernel
theorem dX10_clearResult_21 : decode cX10_clearResult 21 = .ok (.iastore, 1) := by decide +kernel
theorem dX10_clearResult_22 : decode cX10_clearResult 22 = .ok (.iinc 1 1, 3) := by decide +kernel
theorem dX10_clearResult_25 : decode cX10_clearResult 25 = .ok (.goto (-23), 3) := by decide +kernel
theorem dX10_clearResult_28 : decode cX10_clearResult 28 = .ok (.aload_n 0, 1) := by decide +kernel
theorem dX10_clearResult_29 : decode cX10_clearResult 29 = .ok (.getfield 53, 3) := by decide +kernel
theorem dX10_clearResult_32 : decode cX10_clearResult 32 = .ok (.iconst 0, 1) := by decide +kernel
theorem dX10_clearResult_33 : decode cX10_clearResult 33 = .ok (.iconst 1, 1) := by decide +kernel
theorem dX10_clearResult_34 : decode cX10_clearResult 34 = .ok (.iastore, 1) := by decide +kernel
theorem dX10_clearResult_35 : decode cX10_clearResult 35 = .ok (.return_, 1) := by decide +kernel
theorem dX10_reduce_0 : decode cX10_reduce 0 = .ok (.aload_n 0, 1) := by decide +kernel
theorem dX10_reduce_1 : decode cX10_reduce 1 = .ok (.aload_n 2, 1) := by decide +kernel
theorem dX10_reduce_2 : decode cX10_reduce 2 = .ok (.iload_n 3, 1) := by decide +kernel
theorem dX10_reduce_3 : decode cX10_reduce 3 = .ok (.iaload, 1) := by decide +kernel
theorem dX10_reduce_4 : decode cX10_reduce 4 = .ok (.invokevirtual 142, 3) := by decide +kernel
theorem dX10_reduce_7 : decode cX10_reduce 7 = .ok (.istore 4, 2) := by decide +kernel
theorem dX10_reduce_9 : decode cX10_reduce 9 = .ok (.aload_n 1, 1) := by decide +kernel
theorem dX10_reduce_10 : decode cX10_reduce 10 = .ok (.bipush 89, 2) := by decide +kernel
theorem dX10_reduce_12 : decode cX10_reduce 12 = .ok (.invokestatic 167, 3) := by decide +kernel
theorem dX10_reduce_15 : decode cX10_reduce 15 = .ok (.istore 5, 2) := by decide +kernel
theorem dX10_reduce_17 : decode cX10_reduce 17 = .ok (.iload 5, 2) := by decide +kernel
theorem dX10_reduce_19 : decode cX10_reduce 19 = .ok (.iload_n 3, 1) := by decide +kernel
theorem dX10_reduce_20 : decode cX10_reduce 20 = .ok (.if_icmp .lt 69, 3) := by decide +kernel
theorem dX10_reduce_23 : decode cX10_reduce 23 = .ok (.aload_n 0, 1) := by decide +kernel
theorem dX10_reduce_24 : decode cX10_reduce 24 = .ok (.aload_n 1, 1) := by decide +kernel
theorem dX10_reduce_25 : decode cX10_reduce 25 = .ok (.iload 5, 2) := by decide +kernel
theorem dX10_reduce_27 : decode cX10_reduce 27 = .ok (.iaload, 1) := by decide +kernel
theorem dX10_reduce_28 : decode cX10_reduce 28 = .ok (.iload 4, 2) := by decide +kernel
theorem dX10_reduce_30 : decode cX10_reduce 30 = .ok (.invokevirtual 99, 3) := by decide +kernel
theorem dX10_reduce_33 : decode cX10_reduce 33 = .ok (.istore 6, 2) := by decide +kernel
theorem dX10_reduce_35 : decode cX10_reduce 35 = .ok (.iconst 0, 1) := by decide +kernel
theorem dX10_reduce_36 : decode cX10_reduce 36 = .ok (.istore 7, 2) := by decide +kernel
theorem dX10_reduce_38 : decode cX10_reduce 38 = .ok (.iload 7, 2) := by decide +kernel
theorem dX10_reduce_40 : decode cX10_reduce 40 = .ok (.iload_n 3, 1) := by decide +kernel
theorem dX10_reduce_41 : decode cX10_reduce 41 = .ok (.if_icmp .gt 42, 3) := by decide +kernel
theorem dX10_reduce_44 : decode cX10_reduce 44 = .ok (.aload_n 1, 1) := by decide +kernel
theorem dX10_reduce_45 : decode cX10_reduce 45 = .ok (.iload 5, 2) := by decide +kernel
theorem dX10_reduce_47 : decode cX10_reduce 47 = .ok (.iload_n 3, 1) := by decide +kernel
theorem dX10_reduce_48 : decode cX10_reduce 48 = .ok (.isub, 1) := by decide +kernel
theorem dX10_reduce_49 : decode cX10_reduce 49 = .ok (.iload 7, 2) := by decide +kernel
theorem dX10_reduce_51 : decode cX10_reduce 51 = .ok (.iadd, 1) := by decide +kernel
theorem dX10_reduce_52 : decode cX10_reduce 52 = .ok (.aload_n 0, 1) := by decide +kernel
theorem dX10_reduce_53 : decode cX10_reduce 53 = .ok (.aload_n 1, 1) := by decide +kernel
theorem dX10_reduce_54 : decode cX10_reduce 54 = .ok (.iload 5, 2) := by decide +kernel
theorem dX10_reduce_56 : decode cX10_reduce 56 = .ok (.iload_n 3, 1) := by decide +kernel
theorem dX10_reduce_57 : decode cX10_reduce 57 = .ok (.isub, 1) := by decide +kernel
theorem dX10_reduce_58 : decode cX10_reduce 58 = .ok (.iload 7, 2) := by decide +kernel
theorem dX10_reduce_60 : decode cX10_reduce 60 = .ok (.iadd, 1) := by decide +kernel
theorem dX10_reduce_61 : decode cX10_reduce 61 = .ok (.iaload, 1) := by decide +kernel
theorem dX10_reduce_62 : decode cX10_reduce 62 = .ok (.i2l, 1) := by decide +kernel
theorem dX10_reduce_63 : decode cX10_reduce 63 = .ok (.iload 6, 2) := by decide +kernel
theorem dX10_reduce_65 : decode cX10_reduce 65 = .ok (.i2l, 1) := by decide +kernel
theorem dX10_reduce_66 : decode cX10_reduce 66 = .ok (.aload_n 2, 1) := by decide +kernel
theorem dX10_reduce_67 : decode cX10_reduce 67 = .ok (.iload 7, 2) := by decide +kernel
theorem dX10_reduce_69 : decode cX10_reduce 69 = .ok (.iaload, 1) := by decide +kernel
theorem dX10_reduce_70 : decode cX10_reduce 70 = .ok (.i2l, 1) := by decide +kernel
theorem dX10_reduce_71 : decode cX10_reduce 71 = .ok (.lmul, 1) := by decide +kernel
theorem dX10_reduce_72 : decode cX10_reduce 72 = .ok (.lsub, 1) := by decide +kernel
theorem dX10_reduce_73 : decode cX10_reduce 73 = .ok (.invokevirtual 135, 3) := by decide +kernel
theorem dX10_reduce_76 : decode cX10_reduce 76 = .ok (.iastore, 1) := by decide +kernel
theorem dX10_reduce_77 : decode cX10_reduce 77 = .ok (.iinc 7 1, 3) := by decide +kernel
theorem dX10_reduce_80 : decode cX10_reduce 80 = .ok (.goto (-42), 3) := by decide +kernel
theorem dX10_reduce_83 : decode cX10_reduce 83 = .ok (.iinc 5 (-1), 3) := by decide +kernel
theorem dX10_reduce_86 : decode cX10_reduce 86 = .ok (.goto (-69), 3) := by decide +kernel
theorem dX10_reduce_89 : decode cX10_reduce 89 = .ok (.return_, 1) := by decide +kernel
