theorem dX10_divide_0 : decode cX10_divide 0 = .ok (.aload_n 2, 1) := by decide +kernel
theorem dX10_divide_1 : decode cX10_divide 1 = .ok (.bipush 89, 2) := by decide +kernel
theorem dX10_divide_3 : decode cX10_divide 3 = .ok (.invokestatic 167, 3) := by decide +kernel
theorem dX10_divide_6 : decode cX10_divide 6 = .ok (.istore_n 3, 1) := by decide +kernel
theorem dX10_divide_7 : decode cX10_divide 7 = .ok (.aload_n 0, 1) := by decide +kernel
theorem dX10_divide_8 : decode cX10_divide 8 = .ok (.aload_n 2, 1) := by decide +kernel
theorem dX10_divide_9 : decode cX10_divide 9 = .ok (.iload_n 3, 1) := by decide +kernel
theorem dX10_divide_10 : decode cX10_divide 10 = .ok (.iaload, 1) := by decide +kernel
theorem dX10_divide_11 : decode cX10_divide 11 = .ok (.invokevirtual 142, 3) := by decide +kernel
theorem dX10_divide_14 : decode cX10_divide 14 = .ok (.istore 4, 2) := by decide +kernel
theorem dX10_divide_16 : decode cX10_divide 16 = .ok (.aload_n 1, 1) := by decide +kernel
theorem dX10_divide_17 : decode cX10_divide 17 = .ok (.bipush 89, 2) := by decide +kernel
theorem dX10_divide_19 : decode cX10_divide 19 = .ok (.invokestatic 167, 3) := by decide +kernel
theorem dX10_divide_22 : decode cX10_divide 22 = .ok (.istore 5, 2) := by decide +kernel
theorem dX10_divide_24 : decode cX10_divide 24 = .ok (.iload 5, 2) := by decide +kernel
theorem dX10_divide_26 : decode cX10_divide 26 = .ok (.istore 6, 2) := by decide +kernel
theorem dX10_divide_28 : decode cX10_divide 28 = .ok (.iload 6, 2) := by decide +kernel
theorem dX10_divide_30 : decode cX10_divide 30 = .ok (.iload_n 3, 1) := by decide +kernel
theorem dX10_divide_31 : decode cX10_divide 31 = .ok (.if_icmp .lt 75, 3) := by decide +kernel
theorem dX10_divide_34 : decode cX10_divide 34 = .ok (.aload_n 0, 1) := by decide +kernel
theorem dX10_divide_35 : decode cX10_divide 35 = .ok (.aload_n 1, 1) := by decide +kernel
theorem dX10_divide_36 : decode cX10_divide 36 = .ok (.iload 6, 2) := by decide +kernel
theorem dX10_divide_38 : decode cX10_divide 38 = .ok (.iaload, 1) := by decide +kernel
theorem dX10_divide_39 : decode cX10_divide 39 = .ok (.iload 4, 2) := by decide +kernel
theorem dX10_divide_41 : decode cX10_divide 41 = .ok (.invokevirtual 99, 3) := by decide +kernel
theorem dX10_divide_44 : decode cX10_divide 44 = .ok (.istore 7, 2) := by decide +kernel
theorem dX10_divide_46 : decode cX10_divide 46 = .ok (.iconst 0, 1) := by decide +kernel
theorem dX10_divide_47 : decode cX10_divide 47 = .ok (.istore 8, 2) := by decide +kernel
theorem dX10_divide_49 : decode cX10_divide 49 = .ok (.iload 8, 2) := by decide +kernel
theorem dX10_divide_51 : decode cX10_divide 51 = .ok (.iload_n 3, 1) := by decide +kernel
theorem dX10_divide_52 : decode cX10_divide 52 = .ok (.if_icmp .ge 42, 3) := by decide +kernel
theorem dX10_divide_55 : decode cX10_divide 55 = .ok (.aload_n 1, 1) := by decide +kernel
theorem dX10_divide_56 : decode cX10_divide 56 = .ok (.iload 6, 2) := by decide +kernel
theorem dX10_divide_58 : decode cX10_divide 58 = .ok (.iload_n 3, 1) := by decide +kernel
theorem dX10_divide_59 : decode cX10_divide 59 = .ok (.isub, 1) := by decide +kernel
theorem dX10_divide_60 : decode cX10_divide 60 = .ok (.iload 8, 2) := by decide +kernel
theorem dX10_divide_62 : decode cX10_divide 62 = .ok (.iadd, 1) := by decide +kernel
theorem dX10_divide_63 : decode cX10_divide 63 = .ok (.aload_n 0, 1) := by decide +kernel
theorem dX10_divide_64 : decode cX10_divide 64 = .ok (.aload_n 1, 1) := by decide +kernel
theorem dX10_divide_65 : decode cX10_divide 65 = .ok (.iload 6, 2) := by decide +kernel
theorem dX10_divide_67 : decode cX10_divide 67 = .ok (.iload_n 3, 1) := by decide +kernel
theorem dX10_divide_68 : decode cX10_divide 68 = .ok (.isub, 1) := by decide +kernel
theorem dX10_divide_69 : decode cX10_divide 69 = .ok (.iload 8, 2) := by decide +kernel
theorem dX10_divide_71 : decode cX10_divide 71 = .ok (.iadd, 1) := by decide +kernel
theorem dX10_divide_72 : decode cX10_divide 72 = .ok (.iaload, 1) := by decide +kernel
theorem dX10_divide_73 : decode cX10_divide 73 = .ok (.i2l, 1) := by decide +kernel
theorem dX10_divide_74 : decode cX10_divide 74 = .ok (.iload 7, 2) := by decide +kernel
theorem dX10_divide_76 : decode cX10_divide 76 = .ok (.i2l, 1) := by decide +kernel
theorem dX10_divide_77 : decode cX10_divide 77 = .ok (.aload_n 2, 1) := by decide +kernel
theorem dX10_divide_78 : decode cX10_divide 78 = .ok (.iload 8, 2) := by decide +kernel
theorem dX10_divide_80 : decode cX10_divide 80 = .ok (.iaload, 1) := by decide +kernel
theorem dX10_divide_81 : decode cX10_divide 81 = .ok (.i2l, 1) := by decide +kernel
theorem dX10_divide_82 : decode cX10_divide 82 = .ok (.lmul, 1) := by decide +kernel
theorem dX10_divide_83 : decode cX10_divide 83 = .ok (.lsub, 1) := by decide +kernel
theorem dX10_divide_84 : decode cX10_divide 84 = .ok (.invokevirtual 135, 3) := by decide +kernel
theorem dX10_divide_87 : decode cX10_divide 87 = .ok (.iastore, 1) := by decide +kernel
theorem dX10_divide_88 : decode cX10_divide 88 = .ok (.iinc 8 1, 3) := by decide +kernel
theorem dX10_divide_91 : decode cX10_divide 91 = .ok (.goto (-42), 3) := by decide +kernel
theorem dX10_divide_94 : decode cX10_divide 94 = .ok (.aload_n 1, 1) := by decide +kernel
theorem dX10_divide_95 : decode cX10_divide 95 = .ok (.iload 6, 2) := by decide +kernel
theorem dX10_divide_97 : decode cX10_divide 97 = .ok (.iload 7, 2) := by decide +kernel
theorem dX10_divide_99 : decode cX10_divide 99 = .ok (.iastore, 1) := by decide +kernel
theorem dX10_divide_100 : decode cX10_divide 100 = .ok (.iinc 6 (-1), 3) := by decide +kernel
theorem dX10_divide_103 : decode cX10_divide 103 = .ok (.goto (-75), 3) := by decide +kernel
theorem dX10_divide_106 : decode cX10_divide 106 = .ok (.iconst 0, 1) := by decide +kernel
theorem dX10_divide_107 : decode cX10_divide 107 = .ok (.istore 6, 2) := by decide +kernel
theorem dX10_divide_109 : decode cX10_divide 109 = .ok (.iload 6, 2) := by decide +kernel
theorem dX10_divide_111 : decode cX10_divide 111 = .ok (.bipush 89, 2) := by decide +kernel
theorem dX10_divide_113 : decode cX10_divide 113 = .ok (.if_icmp .gt 32, 3) := by decide +kernel
theorem dX10_divide_116 : decode cX10_divide 116 = .ok (.aload_n 1, 1) := by decide +kernel
theorem dX10_divide_117 : decode cX10_divide 117 = .ok (.iload 6, 2) := by decide +kernel
theorem dX10_divide_119 : decode cX10_divide 119 = .ok (.iload 6, 2) := by decide +kernel
theorem dX10_divide_121 : decode cX10_divide 121 = .ok (.iload_n 3, 1) := by decide +kernel
theorem dX10_divide_122 : decode cX10_divide 122 = .ok (.iadd, 1) := by decide +kernel
theorem dX10_divide_123 : decode cX10_divide 123 = .ok (.iload 5, 2) := by decide +kernel
theorem dX10_divide_125 : decode cX10_divide 125 = .ok (.if_icmp .gt 12, 3) := by decide +kernel
theorem dX10_divide_128 : decode cX10_divide 128 = .ok (.aload_n 1, 1) := by decide +kernel
theorem dX10_divide_129 : decode cX10_divide 129 = .ok (.iload 6, 2) := by decide +kernel
theorem dX10_divide_131 : decode cX10_divide 131 = .ok (.iload_n 3, 1) := by decide +kernel
theorem dX10_divide_132 : decode cX10_divide 132 = .ok (.iadd, 1) := by decide +kernel
theorem dX10_divide_133 : decode cX10_divide 133 = .ok (.iaload, 1) := by decide +kernel
theorem dX10_divide_134 : decode cX10_divide 134 = .ok (.goto 4, 3) := by decide +kernel
theorem dX10_divide_137 : decode cX10_divide 137 = .ok (.iconst 0, 1) := by decide +kernel
theorem dX10_divide_138 : decode cX10_divide 138 = .ok (.iastore, 1) := by decide +kernel
theorem dX10_divide_139 : decode cX10_divide 139 = .ok (.iinc 6 1, 3) := by decide +kernel
theorem dX10_divide_142 : decode cX10_divide 142 = .ok (.goto (-33), 3) := by decide +kernel
theorem dX10_divide_145 : decode cX10_divide 145 = .ok (.return_, 1) := by decide +kernel
theorem dX10_lighten_0 : decode cX10_lighten 0 = .ok (.iconst 0, 1) := by decide +kernel
theorem dX10_lighten_1 : decode cX10_lighten 1 = .ok (.istore_n 1, 1) := by decide +kernel
theorem dX10_lighten_2 : decode cX10_lighten 2 = .ok (.iload_n 1, 1) := by decide +kernel
theorem dX10_lighten_3 : decode cX10_lighten 3 = .ok (.bipush 90, 2) := by decide +kernel
theorem dX10_lighten_5 : decode cX10_lighten 5 = .ok (.if_icmp .ge 33, 3) := by decide +kernel
theorem dX10_lighten_8 : decode cX10_lighten 8 = .ok (.aload_n 0, 1) := by decide +kernel
theorem dX10_lighten_9 : decode cX10_lighten 9 = .ok (.getfield 56, 3) := by decide +kernel
theorem dX10_lighten_12 : decode cX10_lighten 12 = .ok (.iload_n 1, 1) := by decide +kernel
theorem dX10_lighten_13 : decode cX10_lighten 13 = .ok (.aload_n 0, 1) := by decide +kernel
theorem dX10_lighten_14 : decode cX10_lighten 14 = .ok (.getfield 35, 3) := by decide +kernel
theorem dX10_lighten_17 : decode cX10_lighten 17 = .ok (.iload_n 1, 1) := by decide +kernel
theorem dX10_lighten_18 : decode cX10_lighten 18 = .ok (.iaload, 1) := by decide +kernel
theorem dX10_lighten_19 : decode cX10_lighten 19 = .ok (.iastore, 1) := by decide +kernel
theorem dX10_lighten_20 : decode cX10_lighten 20 = .ok (.aload_n 0, 1) := by decide +kernel
theorem dX10_lighten_21 : decode cX10_lighten 21 = .ok (.getfield 59, 3) := by decide +kernel
theorem dX10_lighten_24 : decode cX10_lighten 24 = .ok (.iload_n 1, 1) := by decide +kernel
theorem dX10_lighten_25 : decode cX10_lighten 25 = .ok (.aload_n 0, 1) := by decide +kernel
theorem dX10_lighten_26 : decode cX10_lighten 26 = .ok (.getfield 38, 3) := by decide +kernel
theorem dX10_lighten_29 : decode cX10_lighten 29 = .ok (.iload_n 1, 1) := by decide +kernel
theorem dX10_lighten_30 : decode cX10_lighten 30 = .ok (.iaload, 1) := by decide +kernel
theorem dX10_lighten_31 : decode cX10_lighten 31 = .ok (.iastore, 1) := by decide +kernel
theorem dX10_lighten_32 : decode cX10_lighten 32 = .ok (.iinc 1 1, 3) := by decide +kernel
theorem dX10_lighten_35 : decode cX10_lighten 35 = .ok (.goto (-33), 3) := by decide +kernel
theorem dX10_lighten_38 : decode cX10_lighten 38 = .ok (.iconst 1, 1) := by decide +kernel
theorem dX10_lighten_39 : decode cX10_lighten 39 = .ok (.istore_n 1, 1) := by decide +kernel
theorem dX10_lighten_40 : decode cX10_lighten 40 = .ok (.iload_n 1, 1) := by decide +kernel
theorem dX10_lighten_41 : decode cX10_lighten 41 = .ok (.ifCond .eq 10, 3) := by decide +kernel
theorem dX10_lighten_44 : decode cX10_lighten 44 = .ok (.aload_n 0, 1) := by decide +kernel
theorem dX10_lighten_45 : decode cX10_lighten 45 = .ok (.getfield 59, 3) := by decide +kernel
theorem dX10_lighten_48 : decode cX10_lighten 48 = .ok (.goto 7, 3) := by decide +kernel
theorem dX10_lighten_51 : decode cX10_lighten 51 = .ok (.aload_n 0, 1) := by decide +kernel
theorem dX10_lighten_52 : decode cX10_lighten 52 = .ok (.getfield 56, 3) := by decide +kernel
theorem dX10_lighten_55 : decode cX10_lighten 55 = .ok (.bipush 89, 2) := by decide +kernel
theorem dX10_lighten_57 : decode cX10_lighten 57 = .ok (.invokestatic 167, 3) := by decide +kernel
theorem dX10_lighten_60 : decode cX10_lighten 60 = .ok (.istore_n 2, 1) := by decide +kernel
theorem dX10_lighten_61 : decode cX10_lighten 61 = .ok (.iload_n 2, 1) := by decide +kernel
theorem dX10_lighten_62 : decode cX10_lighten 62 = .ok (.ifCond .lt 69, 3) := by decide +kernel
theorem dX10_lighten_65 : decode cX10_lighten 65 = .ok (.iload_n 1, 1) := by decide +kernel
theorem dX10_lighten_66 : decode cX10_lighten 66 = .ok (.ifCond .eq 29, 3) := by decide +kernel
theorem dX10_lighten_69 : decode cX10_lighten 69 = .ok (.aload_n 0, 1) := by decide +kernel
theorem dX10_lighten_70 : decode cX10_lighten 70 = .ok (.aload_n 0, 1) := by decide +kernel
theorem dX10_lighten_71 : decode cX10_lighten 71 = .ok (.getfield 56, 3) := by decide +kernel
theorem dX10_lighten_74 : decode cX10_lighten 74 = .ok (.aload_n 0, 1) := by decide +kernel
theorem dX10_lighten_75 : decode cX10_lighten 75 = .ok (.getfield 59, 3) := by decide +kernel
theorem dX10_lighten_78 : decode cX10_lighten 78 = .ok (.iload_n 2, 1) := by decide +kernel
theorem dX10_lighten_79 : decode cX10_lighten 79 = .ok (.invokevirtual 171, 3) := by decide +kernel
theorem dX10_lighten_82 : decode cX10_lighten 82 = .ok (.aload_n 0, 1) := by decide +kernel
theorem dX10_lighten_83 : decode cX10_lighten 83 = .ok (.getfield 56, 3) := by decide +kernel
theorem dX10_lighten_86 : decode cX10_lighten 86 = .ok (.bipush 89, 2) := by decide +kernel
theorem dX10_lighten_88 : decode cX10_lighten 88 = .ok (.invokestatic 167, 3) := by decide +kernel
theorem dX10_lighten_91 : decode cX10_lighten 91 = .ok (.istore_n 2, 1) := by decide +kernel
theorem dX10_lighten_92 : decode cX10_lighten 92 = .ok (.goto 26, 3) := by decide +kernel
theorem dX10_lighten_95 : decode cX10_lighten 95 = .ok (.aload_n 0, 1) := by decide +kernel
theorem dX10_lighten_96 : decode cX10_lighten 96 = .ok (.aload_n 0, 1) := by decide +kernel
theorem dX10_lighten_97 : decode cX10_lighten 97 = .ok (.getfield 59, 3) := by decide +kernel
theorem dX10_lighten_100 : decode cX10_lighten 100 = .ok (.aload_n 0, 1) := by decide +kernel
theorem dX10_lighten_101 : decode cX10_lighten 101 = .ok (.getfield 56, 3) := by decide +kernel
theorem dX10_lighten_104 : decode cX10_lighten 104 = .ok (.iload_n 2, 1) := by decide +kernel
theorem dX10_lighten_105 : decode cX10_lighten 105 = .ok (.invokevirtual 171, 3) := by decide +kernel
theorem dX10_lighten_108 : decode cX10_lighten 108 = .ok (.aload_n 0, 1) := by decide +kernel
theorem dX10_lighten_109 : decode cX10_lighten 109 = .ok (.getfield 59, 3) := by decide +kernel
theorem dX10_lighten_112 : decode cX10_lighten 112 = .ok (.bipush 89, 2) := by decide +kernel
theorem dX10_lighten_114 : decode cX10_lighten 114 = .ok (.invokestatic 167, 3) := by decide +kernel
theorem dX10_lighten_117 : decode cX10_lighten 117 = .ok (.istore_n 2, 1) := by decide +kernel
theorem dX10_lighten_118 : decode cX10_lighten 118 = .ok (.iload_n 1, 1) := by decide +kernel
theorem dX10_lighten_119 : decode cX10_lighten 119 = .ok (.ifCond .ne 7, 3) := by decide +kernel
theorem dX10_lighten_122 : decode cX10_lighten 122 = .ok (.iconst 1, 1) := by decide +kernel
theorem dX10_lighten_123 : decode cX10_lighten 123 = .ok (.goto 4, 3) := by decide +kernel
theorem dX10_lighten_126 : decode cX10_lighten 126 = .ok (.iconst 0, 1) := by decide +kernel
theorem dX10_lighten_127 : decode cX10_lighten 127 = .ok (.istore_n 1, 1) := by decide +kernel
theorem dX10_lighten_128 : decode cX10_lighten 128 = .ok (.goto (-67), 3) := by decide +kernel
theorem dX10_lighten_131 : decode cX10_lighten 131 = .ok (.iload_n 1, 1) := by decide +kernel
theorem dX10_lighten_132 : decode cX10_lighten 132 = .ok (.ifCond .eq 10, 3) := by decide +kernel
theorem dX10_lighten_135 : decode cX10_lighten 135 = .ok (.aload_n 0, 1) := by decide +kernel
theorem dX10_lighten_136 : decode cX10_lighten 136 = .ok (.getfield 56, 3) := by decide +kernel
theorem dX10_lighten_139 : decode cX10_lighten 139 = .ok (.goto 7, 3) := by decide +kernel
theorem dX10_lighten_142 : decode cX10_lighten 142 = .ok (.aload_n 0, 1) := by decide +kernel
theorem dX10_lighten_143 : decode cX10_lighten 143 = .ok (.getfield 59, 3) := by decide +kernel
theorem dX10_lighten_146 : decode cX10_lighten 146 = .ok (.astore_n 3, 1) := by decide +kernel
theorem dX10_lighten_147 : decode cX10_lighten 147 = .ok (.aload_n 3, 1) := by decide +kernel
theorem dX10_lighten_148 : decode cX10_lighten 148 = .ok (.bipush 89, 2) := by decide +kernel
theorem dX10_lighten_150 : decode cX10_lighten 150 = .ok (.invokestatic 167, 3) := by decide +kernel
theorem dX10_lighten_153 : decode cX10_lighten 153 = .ok (.ifCond .le 21, 3) := by decide +kernel
theorem dX10_lighten_156 : decode cX10_lighten 156 = .ok (.aload_n 0, 1) := by decide +kernel
theorem dX10_lighten_157 : decode cX10_lighten 157 = .ok (.aload_n 0, 1) := by decide +kernel
theorem dX10_lighten_158 : decode cX10_lighten 158 = .ok (.getfield 35, 3) := by decide +kernel
theorem dX10_lighten_161 : decode cX10_lighten 161 = .ok (.aload_n 3, 1) := by decide +kernel
theorem dX10_lighten_162 : decode cX10_lighten 162 = .ok (.invokevirtual 175, 3) := by decide +kernel
theorem dX10_lighten_165 : decode cX10_lighten 165 = .ok (.aload_n 0, 1) := by decide +kernel
theorem dX10_lighten_166 : decode cX10_lighten 166 = .ok (.aload_n 0, 1) := by decide +kernel
theorem dX10_lighten_167 : decode cX10_lighten 167 = .ok (.getfield 38, 3) := by decide +kernel
theorem dX10_lighten_170 : decode cX10_lighten 170 = .ok (.aload_n 3, 1) := by decide +kernel
theorem dX10_lighten_171 : decode cX10_lighten 171 = .ok (.invokevirtual 175, 3) := by decide +kernel
theorem dX10_lighten_174 : decode cX10_lighten 174 = .ok (.return_, 1) := by decide +kernel
theorem dX10_tell_0 : decode cX10_tell 0 = .ok (.iconst 0, 1) := by decide +kernel
theorem dX10_tell_1 : decode cX10_tell 1 = .ok (.istore_n 1, 1) := by decide +kernel
theorem dX10_tell_2 : decode cX10_tell 2 = .ok (.aload_n 0, 1) := by decide +kernel
theorem dX10_tell_3 : decode cX10_tell 3 = .ok (.getfield 38, 3) := by decide +kernel
theorem dX10_tell_6 : decode cX10_tell 6 = .ok (.iload_n 1, 1) := by decide +kernel
theorem dX10_tell_7 : decode cX10_tell 7 = .ok (.iaload, 1) := by decide +kernel
theorem dX10_tell_8 : decode cX10_tell 8 = .ok (.ifCond .ne 9, 3) := by decide +kernel
theorem dX10_tell_11 : decode cX10_tell 11 = .ok (.iinc 1 1, 3) := by decide +kernel
theorem dX10_tell_14 : decode cX10_tell 14 = .ok (.goto (-12), 3) := by decide +kernel
theorem dX10_tell_17 : decode cX10_tell 17 = .ok (.aload_n 0, 1) := by decide +kernel
theorem dX10_tell_18 : decode cX10_tell 18 = .ok (.aload_n 0, 1) := by decide +kernel
theorem dX10_tell_19 : decode cX10_tell 19 = .ok (.getfield 38, 3) := by decide +kernel
theorem dX10_tell_22 : decode cX10_tell 22 = .ok (.iload_n 1, 1) := by decide +kernel
theorem dX10_tell_23 : decode cX10_tell 23 = .ok (.iaload, 1) := by decide +kernel
theorem dX10_tell_24 : decode cX10_tell 24 = .ok (.invokevirtual 142, 3) := by decide +kernel
theorem dX10_tell_27 : decode cX10_tell 27 = .ok (.istore_n 2, 1) := by decide +kernel
theorem dX10_tell_28 : decode cX10_tell 28 = .ok (.iconst 0, 1) := by decide +kernel
theorem dX10_tell_29 : decode cX10_tell 29 = .ok (.istore_n 3, 1) := by decide +kernel
theorem dX10_tell_30 : decode cX10_tell 30 = .ok (.iload_n 3, 1) := by decide +kernel
theorem dX10_tell_31 : decode cX10_tell 31 = .ok (.bipush 46, 2) := by decide +kernel
theorem dX10_tell_33 : decode cX10_tell 33 = .ok (.if_icmp .ge 43, 3) := by decide +kernel
theorem dX10_tell_36 : decode cX10_tell 36 = .ok (.aload_n 0, 1) := by decide +kernel
theorem dX10_tell_37 : decode cX10_tell 37 = .ok (.getfield 50, 3) := by decide +kernel
theorem dX10_tell_40 : decode cX10_tell 40 = .ok (.iload_n 3, 1) := by decide +kernel
theorem dX10_tell_41 : decode cX10_tell 41 = .ok (.aload_n 0, 1) := by decide +kernel
theorem dX10_tell_42 : decode cX10_tell 42 = .ok (.aload_n 0, 1) := by decide +kernel
theorem dX10_tell_43 : decode cX10_tell 43 = .ok (.getfield 35, 3) := by decide +kernel
theorem dX10_tell_46 : decode cX10_tell 46 = .ok (.iload_n 3, 1) := by decide +kernel
theorem dX10_tell_47 : decode cX10_tell 47 = .ok (.iaload, 1) := by decide +kernel
theorem dX10_tell_48 : decode cX10_tell 48 = .ok (.iload_n 2, 1) := by decide +kernel
theorem dX10_tell_49 : decode cX10_tell 49 = .ok (.invokevirtual 99, 3) := by decide +kernel
theorem dX10_tell_52 : decode cX10_tell 52 = .ok (.iastore, 1) := by decide +kernel
theorem dX10_tell_53 : decode cX10_tell 53 = .ok (.aload_n 0, 1) := by decide +kernel
theorem dX10_tell_54 : decode cX10_tell 54 = .ok (.getfield 53, 3) := by decide +kernel
theorem dX10_tell_57 : decode cX10_tell 57 = .ok (.iload_n 3, 1) := by decide +kernel
theorem dX10_tell_58 : decode cX10_tell 58 = .ok (.aload_n 0, 1) := by decide +kernel
theorem dX10_tell_59 : decode cX10_tell 59 = .ok (.aload_n 0, 1) := by decide +kernel
theorem dX10_tell_60 : decode cX10_tell 60 = .ok (.getfield 38, 3) := by decide +kernel
theorem dX10_tell_63 : decode cX10_tell 63 = .ok (.iload_n 3, 1) := by decide +kernel
theorem dX10_tell_64 : decode cX10_tell 64 = .ok (.iaload, 1) := by decide +kernel
theorem dX10_tell_65 : decode cX10_tell 65 = .ok (.iload_n 2, 1) := by decide +kernel
theorem dX10_tell_66 : decode cX10_tell 66 = .ok (.invokevirtual 99, 3) := by decide +kernel
theorem dX10_tell_69 : decode cX10_tell 69 = .ok (.iastore, 1) := by decide +kernel
theorem dX10_tell_70 : decode cX10_tell 70 = .ok (.iinc 3 1, 3) := by decide +kernel
theorem dX10_tell_73 : decode cX10_tell 73 = .ok (.goto (-43), 3) := by decide +kernel
theorem dX10_tell_76 : decode cX10_tell 76 = .ok (.return_, 1) := by decide +kernel
theorem dX10_findEntry_0 : decode cX10_findEntry 0 = .ok (.iconst 0, 1) := by decide +kernel
theorem dX10_findEntry_1 : decode cX10_findEntry 1 = .ok (.istore 4, 2) := by decide +kernel
theorem dX10_findEntry_3 : decode cX10_findEntry 3 = .ok (.iload 4, 2) := by decide +kernel
theorem dX10_findEntry_5 : decode cX10_findEntry 5 = .ok (.iload_n 3, 1) := by decide +kernel
theorem dX10_findEntry_6 : decode cX10_findEntry 6 = .ok (.if_icmp .ge 64, 3) := by decide +kernel
theorem dX10_findEntry_9 : decode cX10_findEntry 9 = .ok (.iconst 0, 1) := by decide +kernel
theorem dX10_findEntry_10 : decode cX10_findEntry 10 = .ok (.istore 5, 2) := by decide +kernel
theorem dX10_findEntry_12 : decode cX10_findEntry 12 = .ok (.iload 5, 2) := by decide +kernel
theorem dX10_findEntry_14 : decode cX10_findEntry 14 = .ok (.iload_n 3, 1) := by decide +kernel
theorem dX10_findEntry_15 : decode cX10_findEntry 15 = .ok (.if_icmp .gt 49, 3) := by decide +kernel
theorem dX10_findEntry_18 : decode cX10_findEntry 18 = .ok (.iload_n 2, 1) := by decide +kernel
theorem dX10_findEntry_19 : decode cX10_findEntry 19 = .ok (.iconst 1, 1) := by decide +kernel
theorem dX10_findEntry_20 : decode cX10_findEntry 20 = .ok (.iadd, 1) := by decide +kernel
theorem dX10_findEntry_21 : decode cX10_findEntry 21 = .ok (.iload 4, 2) := by decide +kernel
theorem dX10_findEntry_23 : decode cX10_findEntry 23 = .ok (.iadd, 1) := by decide +kernel
theorem dX10_findEntry_24 : decode cX10_findEntry 24 = .ok (.iload 5, 2) := by decide +kernel
theorem dX10_findEntry_26 : decode cX10_findEntry 26 = .ok (.isub, 1) := by decide +kernel
theorem dX10_findEntry_27 : decode cX10_findEntry 27 = .ok (.istore 6, 2) := by decide +kernel
theorem dX10_findEntry_29 : decode cX10_findEntry 29 = .ok (.aload_n 0, 1) := by decide +kernel
theorem dX10_findEntry_30 : decode cX10_findEntry 30 = .ok (.getfield 41, 3) := by decide +kernel
theorem dX10_findEntry_33 : decode cX10_findEntry 33 = .ok (.bipush 44, 2) := by decide +kernel
theorem dX10_findEntry_35 : decode cX10_findEntry 35 = .ok (.iload 4, 2) := by decide +kernel
theorem dX10_findEntry_37 : decode cX10_findEntry 37 = .ok (.imul, 1) := by decide +kernel
theorem dX10_findEntry_38 : decode cX10_findEntry 38 = .ok (.iload 5, 2) := by decide +kernel
theorem dX10_findEntry_40 : decode cX10_findEntry 40 = .ok (.iadd, 1) := by decide +kernel
theorem dX10_findEntry_41 : decode cX10_findEntry 41 = .ok (.iload 6, 2) := by decide +kernel
theorem dX10_findEntry_43 : decode cX10_findEntry 43 = .ok (.ifCond .ge 7, 3) := by decide +kernel
theorem dX10_findEntry_46 : decode cX10_findEntry 46 = .ok (.iconst 0, 1) := by decide +kernel
theorem dX10_findEntry_47 : decode cX10_findEntry 47 = .ok (.goto 10, 3) := by decide +kernel
theorem dX10_findEntry_50 : decode cX10_findEntry 50 = .ok (.aload_n 0, 1) := by decide +kernel
theorem dX10_findEntry_51 : decode cX10_findEntry 51 = .ok (.iload_n 1, 1) := by decide +kernel
theorem dX10_findEntry_52 : decode cX10_findEntry 52 = .ok (.iload 6, 2) := by decide +kernel
theorem dX10_findEntry_54 : decode cX10_findEntry 54 = .ok (.invokevirtual 161, 3) := by decide +kernel
theorem dX10_findEntry_57 : decode cX10_findEntry 57 = .ok (.iastore, 1) := by decide +kernel
theorem dX10_findEntry_58 : decode cX10_findEntry 58 = .ok (.iinc 5 1, 3) := by decide +kernel
theorem dX10_findEntry_61 : decode cX10_findEntry 61 = .ok (.goto (-49), 3) := by decide +kernel
theorem dX10_findEntry_64 : decode cX10_findEntry 64 = .ok (.iinc 4 1, 3) := by decide +kernel
theorem dX10_findEntry_67 : decode cX10_findEntry 67 = .ok (.goto (-64), 3) := by decide +kernel
theorem dX10_findEntry_70 : decode cX10_findEntry 70 = .ok (.aload_n 0, 1) := by decide +kernel
theorem dX10_findEntry_71 : decode cX10_findEntry 71 = .ok (.iload_n 3, 1) := by decide +kernel
theorem dX10_findEntry_72 : decode cX10_findEntry 72 = .ok (.invokevirtual 179, 3) := by decide +kernel
theorem dX10_findEntry_75 : decode cX10_findEntry 75 = .ok (.aload_n 0, 1) := by decide +kernel
theorem dX10_findEntry_76 : decode cX10_findEntry 76 = .ok (.invokevirtual 145, 3) := by decide +kernel
theorem dX10_findEntry_79 : decode cX10_findEntry 79 = .ok (.iconst 0, 1) := by decide +kernel
theorem dX10_findEntry_80 : decode cX10_findEntry 80 = .ok (.istore 4, 2) := by decide +kernel
theorem dX10_findEntry_82 : decode cX10_findEntry 82 = .ok (.iload 4, 2) := by decide +kernel
theorem dX10_findEntry_84 : decode cX10_findEntry 84 = .ok (.iload_n 3, 1) := by decide +kernel
theorem dX10_findEntry_85 : decode cX10_findEntry 85 = .ok (.if_icmp .gt 23, 3) := by decide +kernel
theorem dX10_findEntry_88 : decode cX10_findEntry 88 = .ok (.aload_n 0, 1) := by decide +kernel
theorem dX10_findEntry_89 : decode cX10_findEntry 89 = .ok (.getfield 38, 3) := by decide +kernel
theorem dX10_findEntry_92 : decode cX10_findEntry 92 = .ok (.iload 4, 2) := by decide +kernel
theorem dX10_findEntry_94 : decode cX10_findEntry 94 = .ok (.aload_n 0, 1) := by decide +kernel
theorem dX10_findEntry_95 : decode cX10_findEntry 95 = .ok (.getfield 47, 3) := by decide +kernel
theorem dX10_findEntry_98 : decode cX10_findEntry 98 = .ok (.iload 4, 2) := by decide +kernel
theorem dX10_findEntry_100 : decode cX10_findEntry 100 = .ok (.iaload, 1) := by decide +kernel
theorem dX10_findEntry_101 : decode cX10_findEntry 101 = .ok (.iastore, 1) := by decide +kernel
theorem dX10_findEntry_102 : decode cX10_findEntry 102 = .ok (.iinc 4 1, 3) := by decide +kernel
theorem dX10_findEntry_105 : decode cX10_findEntry 105 = .ok (.goto (-23), 3) := by decide +kernel
theorem dX10_findEntry_108 : decode cX10_findEntry 108 = .ok (.iconst 0, 1) := by decide +kernel
theorem dX10_findEntry_109 : decode cX10_findEntry 109 = .ok (.istore 4, 2) := by decide +kernel
theorem dX10_findEntry_111 : decode cX10_findEntry 111 = .ok (.iload 4, 2) := by decide +kernel
theorem dX10_findEntry_113 : decode cX10_findEntry 113 = .ok (.iload_n 2, 1) := by decide +kernel
theorem dX10_findEntry_114 : decode cX10_findEntry 114 = .ok (.if_icmp .gt 72, 3) := by decide +kernel
theorem dX10_findEntry_117 : decode cX10_findEntry 117 = .ok (.lconst 0, 1) := by decide +kernel
theorem dX10_findEntry_118 : decode cX10_findEntry 118 = .ok (.lstore 5, 2) := by decide +kernel
theorem dX10_findEntry_120 : decode cX10_findEntry 120 = .ok (.iconst 0, 1) := by decide +kernel
theorem dX10_findEntry_121 : decode cX10_findEntry 121 = .ok (.istore 7, 2) := by decide +kernel
theorem dX10_findEntry_123 : decode cX10_findEntry 123 = .ok (.iload 7, 2) := by decide +kernel
theorem dX10_findEntry_125 : decode cX10_findEntry 125 = .ok (.iload_n 3, 1) := by decide +kernel
theorem dX10_findEntry_126 : decode cX10_findEntry 126 = .ok (.if_icmp .gt 41, 3) := by decide +kernel
theorem dX10_findEntry_129 : decode cX10_findEntry 129 = .ok (.iload 7, 2) := by decide +kernel
theorem dX10_findEntry_131 : decode cX10_findEntry 131 = .ok (.iload 4, 2) := by decide +kernel
theorem dX10_findEntry_133 : decode cX10_findEntry 133 = .ok (.if_icmp .gt 34, 3) := by decide +kernel
theorem dX10_findEntry_136 : decode cX10_findEntry 136 = .ok (.lload 5, 2) := by decide +kernel
theorem dX10_findEntry_138 : decode cX10_findEntry 138 = .ok (.aload_n 0, 1) := by decide +kernel
theorem dX10_findEntry_139 : decode cX10_findEntry 139 = .ok (.getfield 38, 3) := by decide +kernel
theorem dX10_findEntry_142 : decode cX10_findEntry 142 = .ok (.iload 7, 2) := by decide +kernel
theorem dX10_findEntry_144 : decode cX10_findEntry 144 = .ok (.iaload, 1) := by decide +kernel
theorem dX10_findEntry_145 : decode cX10_findEntry 145 = .ok (.i2l, 1) := by decide +kernel
theorem dX10_findEntry_146 : decode cX10_findEntry 146 = .ok (.aload_n 0, 1) := by decide +kernel
theorem dX10_findEntry_147 : decode cX10_findEntry 147 = .ok (.iload_n 1, 1) := by decide +kernel
theorem dX10_findEntry_148 : decode cX10_findEntry 148 = .ok (.iload 4, 2) := by decide +kernel
theorem dX10_findEntry_150 : decode cX10_findEntry 150 = .ok (.iload 7, 2) := by decide +kernel
theorem dX10_findEntry_152 : decode cX10_findEntry 152 = .ok (.isub, 1) := by decide +kernel
theorem dX10_findEntry_153 : decode cX10_findEntry 153 = .ok (.invokevirtual 161, 3) := by decide +kernel
theorem dX10_findEntry_156 : decode cX10_findEntry 156 = .ok (.i2l, 1) := by decide +kernel
theorem dX10_findEntry_157 : decode cX10_findEntry 157 = .ok (.lmul, 1) := by decide +kernel
theorem dX10_findEntry_158 : decode cX10_findEntry 158 = .ok (.ladd, 1) := by decide +kernel
theorem dX10_findEntry_159 : decode cX10_findEntry 159 = .ok (.lstore 5, 2) := by decide +kernel
theorem dX10_findEntry_161 : decode cX10_findEntry 161 = .ok (.iinc 7 1, 3) := by decide +kernel
theorem dX10_findEntry_164 : decode cX10_findEntry 164 = .ok (.goto (-41), 3) := by decide +kernel
theorem dX10_findEntry_167 : decode cX10_findEntry 167 = .ok (.aload_n 0, 1) := by decide +kernel
theorem dX10_findEntry_168 : decode cX10_findEntry 168 = .ok (.getfield 35, 3) := by decide +kernel
theorem dX10_findEntry_171 : decode cX10_findEntry 171 = .ok (.iload 4, 2) := by decide +kernel
theorem dX10_findEntry_173 : decode cX10_findEntry 173 = .ok (.aload_n 0, 1) := by decide +kernel
theorem dX10_findEntry_174 : decode cX10_findEntry 174 = .ok (.lload 5, 2) := by decide +kernel
theorem dX10_findEntry_176 : decode cX10_findEntry 176 = .ok (.invokevirtual 135, 3) := by decide +kernel
theorem dX10_findEntry_179 : decode cX10_findEntry 179 = .ok (.iastore, 1) := by decide +kernel
theorem dX10_findEntry_180 : decode cX10_findEntry 180 = .ok (.iinc 4 1, 3) := by decide +kernel
theorem dX10_findEntry_183 : decode cX10_findEntry 183 = .ok (.goto (-72), 3) := by decide +kernel
theorem dX10_findEntry_186 : decode cX10_findEntry 186 = .ok (.aload_n 0, 1) := by decide +kernel
theorem dX10_findEntry_187 : decode cX10_findEntry 187 = .ok (.invokevirtual 183, 3) := by decide +kernel
theorem dX10_findEntry_190 : decode cX10_findEntry 190 = .ok (.aload_n 0, 1) := by decide +kernel
theorem dX10_findEntry_191 : decode cX10_findEntry 191 = .ok (.invokevirtual 186, 3) := by decide +kernel
theorem dX10_findEntry_194 : decode cX10_findEntry 194 = .ok (.return_, 1) := by decide +kernel
theorem dX10_agrees_0 : decode cX10_agrees 0 = .ok (.aload_n 0, 1) := by decide +kernel
theorem dX10_agrees_1 : decode cX10_agrees 1 = .ok (.invokevirtual 152, 3) := by decide +kernel
theorem dX10_agrees_4 : decode cX10_agrees 4 = .ok (.aload_n 0, 1) := by decide +kernel
theorem dX10_agrees_5 : decode cX10_agrees 5 = .ok (.aload_n 0, 1) := by decide +kernel
theorem dX10_agrees_6 : decode cX10_agrees 6 = .ok (.getfield 62, 3) := by decide +kernel
theorem dX10_agrees_9 : decode cX10_agrees 9 = .ok (.aload_n 0, 1) := by decide +kernel
theorem dX10_agrees_10 : decode cX10_agrees 10 = .ok (.getfield 26, 3) := by decide +kernel
theorem dX10_agrees_13 : decode cX10_agrees 13 = .ok (.iload_n 1, 1) := by decide +kernel
theorem dX10_agrees_14 : decode cX10_agrees 14 = .ok (.iaload, 1) := by decide +kernel
theorem dX10_agrees_15 : decode cX10_agrees 15 = .ok (.invokevirtual 148, 3) := by decide +kernel
theorem dX10_agrees_18 : decode cX10_agrees 18 = .ok (.iconst 0, 1) := by decide +kernel
theorem dX10_agrees_19 : decode cX10_agrees 19 = .ok (.istore_n 2, 1) := by decide +kernel
theorem dX10_agrees_20 : decode cX10_agrees 20 = .ok (.iload_n 2, 1) := by decide +kernel
theorem dX10_agrees_21 : decode cX10_agrees 21 = .ok (.aload_n 0, 1) := by decide +kernel
theorem dX10_agrees_22 : decode cX10_agrees 22 = .ok (.getfield 26, 3) := by decide +kernel
theorem dX10_agrees_25 : decode cX10_agrees 25 = .ok (.iload_n 1, 1) := by decide +kernel
theorem dX10_agrees_26 : decode cX10_agrees 26 = .ok (.iaload, 1) := by decide +kernel
theorem dX10_agrees_27 : decode cX10_agrees 27 = .ok (.if_icmp .gt 24, 3) := by decide +kernel
theorem dX10_agrees_30 : decode cX10_agrees 30 = .ok (.aload_n 0, 1) := by decide +kernel
theorem dX10_agrees_31 : decode cX10_agrees 31 = .ok (.getfield 62, 3) := by decide +kernel
theorem dX10_agrees_34 : decode cX10_agrees 34 = .ok (.iload_n 2, 1) := by decide +kernel
theorem dX10_agrees_35 : decode cX10_agrees 35 = .ok (.iaload, 1) := by decide +kernel
theorem dX10_agrees_36 : decode cX10_agrees 36 = .ok (.aload_n 0, 1) := by decide +kernel
theorem dX10_agrees_37 : decode cX10_agrees 37 = .ok (.iload_n 1, 1) := by decide +kernel
theorem dX10_agrees_38 : decode cX10_agrees 38 = .ok (.iload_n 2, 1) := by decide +kernel
theorem dX10_agrees_39 : decode cX10_agrees 39 = .ok (.invokevirtual 161, 3) := by decide +kernel
theorem dX10_agrees_42 : decode cX10_agrees 42 = .ok (.if_icmp .ne 9, 3) := by decide +kernel
theorem dX10_agrees_45 : decode cX10_agrees 45 = .ok (.iinc 2 1, 3) := by decide +kernel
theorem dX10_agrees_48 : decode cX10_agrees 48 = .ok (.goto (-28), 3) := by decide +kernel
theorem dX10_agrees_51 : decode cX10_agrees 51 = .ok (.iload_n 2, 1) := by decide +kernel
theorem dX10_agrees_52 : decode cX10_agrees 52 = .ok (.ireturn, 1) := by decide +kernel
theorem dX10_isPair_0 : decode cX10_isPair 0 = .ok (.iload_n 2, 1) := by decide +kernel
theorem dX10_isPair_1 : decode cX10_isPair 1 = .ok (.ifCond .lt 27, 3) := by decide +kernel
theorem dX10_isPair_4 : decode cX10_isPair 4 = .ok (.iload_n 3, 1) := by decide +kernel
theorem dX10_isPair_5 : decode cX10_isPair 5 = .ok (.ifCond .lt 23, 3) := by decide +kernel
theorem dX10_isPair_8 : decode cX10_isPair 8 = .ok (.iload_n 2, 1) := by decide +kernel
theorem dX10_isPair_9 : decode cX10_isPair 9 = .ok (.i2l, 1) := by decide +kernel
theorem dX10_isPair_10 : decode cX10_isPair 10 = .ok (.iload_n 3, 1) := by decide +kernel
theorem dX10_isPair_11 : decode cX10_isPair 11 = .ok (.i2l, 1) := by decide +kernel
theorem dX10_isPair_12 : decode cX10_isPair 12 = .ok (.ladd, 1) := by decide +kernel
theorem dX10_isPair_13 : decode cX10_isPair 13 = .ok (.aload_n 0, 1) := by decide +kernel
theorem dX10_isPair_14 : decode cX10_isPair 14 = .ok (.getfield 26, 3) := by decide +kernel
theorem dX10_isPair_17 : decode cX10_isPair 17 = .ok (.iload_n 1, 1) := by decide +kernel
theorem dX10_isPair_18 : decode cX10_isPair 18 = .ok (.iaload, 1) := by decide +kernel
theorem dX10_isPair_19 : decode cX10_isPair 19 = .ok (.i2l, 1) := by decide +kernel
theorem dX10_isPair_20 : decode cX10_isPair 20 = .ok (.lcmp, 1) := by decide +kernel
theorem dX10_isPair_21 : decode cX10_isPair 21 = .ok (.ifCond .gt 7, 3) := by decide +kernel
theorem dX10_isPair_24 : decode cX10_isPair 24 = .ok (.iconst 1, 1) := by decide +kernel
theorem dX10_isPair_25 : decode cX10_isPair 25 = .ok (.goto 4, 3) := by decide +kernel
theorem dX10_isPair_28 : decode cX10_isPair 28 = .ok (.iconst 0, 1) := by decide +kernel
theorem dX10_isPair_29 : decode cX10_isPair 29 = .ok (.ireturn, 1) := by decide +kernel
theorem dX10_entry_0 : decode cX10_entry 0 = .ok (.aload_n 0, 1) := by decide +kernel
theorem dX10_entry_1 : decode cX10_entry 1 = .ok (.iload_n 1, 1) := by decide +kernel
theorem dX10_entry_2 : decode cX10_entry 2 = .ok (.invokevirtual 155, 3) := by decide +kernel
theorem dX10_entry_5 : decode cX10_entry 5 = .ok (.ifCond .ne 6, 3) := by decide +kernel
theorem dX10_entry_8 : decode cX10_entry 8 = .ok (.bipush (-101), 2) := by decide +kernel
theorem dX10_entry_10 : decode cX10_entry 10 = .ok (.ireturn, 1) := by decide +kernel
theorem dX10_entry_11 : decode cX10_entry 11 = .ok (.aload_n 0, 1) := by decide +kernel
theorem dX10_entry_12 : decode cX10_entry 12 = .ok (.iload_n 1, 1) := by decide +kernel
theorem dX10_entry_13 : decode cX10_entry 13 = .ok (.iload_n 2, 1) := by decide +kernel
theorem dX10_entry_14 : decode cX10_entry 14 = .ok (.iload_n 3, 1) := by decide +kernel
theorem dX10_entry_15 : decode cX10_entry 15 = .ok (.invokevirtual 189, 3) := by decide +kernel
theorem dX10_entry_18 : decode cX10_entry 18 = .ok (.ifCond .ne 6, 3) := by decide +kernel
theorem dX10_entry_21 : decode cX10_entry 21 = .ok (.bipush (-102), 2) := by decide +kernel
theorem dX10_entry_23 : decode cX10_entry 23 = .ok (.ireturn, 1) := by decide +kernel
theorem dX10_entry_24 : decode cX10_entry 24 = .ok (.aload_n 0, 1) := by decide +kernel
theorem dX10_entry_25 : decode cX10_entry 25 = .ok (.iload_n 1, 1) := by decide +kernel
theorem dX10_entry_26 : decode cX10_entry 26 = .ok (.iload_n 2, 1) := by decide +kernel
theorem dX10_entry_27 : decode cX10_entry 27 = .ok (.iload_n 3, 1) := by decide +kernel
theorem dX10_entry_28 : decode cX10_entry 28 = .ok (.invokevirtual 193, 3) := by decide +kernel
theorem dX10_entry_31 : decode cX10_entry 31 = .ok (.aload_n 0, 1) := by decide +kernel
theorem dX10_entry_32 : decode cX10_entry 32 = .ok (.iload_n 1, 1) := by decide +kernel
theorem dX10_entry_33 : decode cX10_entry 33 = .ok (.invokevirtual 197, 3) := by decide +kernel
theorem dX10_entry_36 : decode cX10_entry 36 = .ok (.ireturn, 1) := by decide +kernel
theorem dX10_worth_0 : decode cX10_worth 0 = .ok (.aload_n 0, 1) := by decide +kernel
theorem dX10_worth_1 : decode cX10_worth 1 = .ok (.iload_n 1, 1) := by decide +kernel
theorem dX10_worth_2 : decode cX10_worth 2 = .ok (.invokevirtual 155, 3) := by decide +kernel
theorem dX10_worth_5 : decode cX10_worth 5 = .ok (.ifCond .ne 6, 3) := by decide +kernel
theorem dX10_worth_8 : decode cX10_worth 8 = .ok (.bipush (-101), 2) := by decide +kernel
theorem dX10_worth_10 : decode cX10_worth 10 = .ok (.ireturn, 1) := by decide +kernel
theorem dX10_worth_11 : decode cX10_worth 11 = .ok (.aload_n 0, 1) := by decide +kernel
theorem dX10_worth_12 : decode cX10_worth 12 = .ok (.iload_n 1, 1) := by decide +kernel
theorem dX10_worth_13 : decode cX10_worth 13 = .ok (.iload_n 2, 1) := by decide +kernel
theorem dX10_worth_14 : decode cX10_worth 14 = .ok (.iload_n 3, 1) := by decide +kernel
theorem dX10_worth_15 : decode cX10_worth 15 = .ok (.invokevirtual 189, 3) := by decide +kernel
theorem dX10_worth_18 : decode cX10_worth 18 = .ok (.ifCond .ne 6, 3) := by decide +kernel
theorem dX10_worth_21 : decode cX10_worth 21 = .ok (.bipush (-102), 2) := by decide +kernel
theorem dX10_worth_23 : decode cX10_worth 23 = .ok (.ireturn, 1) := by decide +kernel
theorem dX10_worth_24 : decode cX10_worth 24 = .ok (.iconst 0, 1) := by decide +kernel
theorem dX10_worth_25 : decode cX10_worth 25 = .ok (.istore 4, 2) := by decide +kernel
theorem dX10_worth_27 : decode cX10_worth 27 = .ok (.iload 4, 2) := by decide +kernel
theorem dX10_worth_29 : decode cX10_worth 29 = .ok (.iload_n 3, 1) := by decide +kernel
theorem dX10_worth_30 : decode cX10_worth 30 = .ok (.if_icmp .ge 62, 3) := by decide +kernel
theorem dX10_worth_33 : decode cX10_worth 33 = .ok (.iconst 0, 1) := by decide +kernel
theorem dX10_worth_34 : decode cX10_worth 34 = .ok (.istore 5, 2) := by decide +kernel
theorem dX10_worth_36 : decode cX10_worth 36 = .ok (.iload 5, 2) := by decide +kernel
theorem dX10_worth_38 : decode cX10_worth 38 = .ok (.iload_n 3, 1) := by decide +kernel
theorem dX10_worth_39 : decode cX10_worth 39 = .ok (.if_icmp .ge 47, 3) := by decide +kernel
theorem dX10_worth_42 : decode cX10_worth 42 = .ok (.iload_n 2, 1) := by decide +kernel
theorem dX10_worth_43 : decode cX10_worth 43 = .ok (.iload 4, 2) := by decide +kernel
theorem dX10_worth_45 : decode cX10_worth 45 = .ok (.iadd, 1) := by decide +kernel
theorem dX10_worth_46 : decode cX10_worth 46 = .ok (.iload 5, 2) := by decide +kernel
theorem dX10_worth_48 : decode cX10_worth 48 = .ok (.isub, 1) := by decide +kernel
theorem dX10_worth_49 : decode cX10_worth 49 = .ok (.istore 6, 2) := by decide +kernel
theorem dX10_worth_51 : decode cX10_worth 51 = .ok (.aload_n 0, 1) := by decide +kernel
theorem dX10_worth_52 : decode cX10_worth 52 = .ok (.getfield 41, 3) := by decide +kernel
theorem dX10_worth_55 : decode cX10_worth 55 = .ok (.bipush 44, 2) := by decide +kernel
theorem dX10_worth_57 : decode cX10_worth 57 = .ok (.iload 4, 2) := by decide +kernel
theorem dX10_worth_59 : decode cX10_worth 59 = .ok (.imul, 1) := by decide +kernel
theorem dX10_worth_60 : decode cX10_worth 60 = .ok (.iload 5, 2) := by decide +kernel
theorem dX10_worth_62 : decode cX10_worth 62 = .ok (.iadd, 1) := by decide +kernel
theorem dX10_worth_63 : decode cX10_worth 63 = .ok (.iload 6, 2) := by decide +kernel
theorem dX10_worth_65 : decode cX10_worth 65 = .ok (.ifCond .ge 7, 3) := by decide +kernel
theorem dX10_worth_68 : decode cX10_worth 68 = .ok (.iconst 0, 1) := by decide +kernel
theorem dX10_worth_69 : decode cX10_worth 69 = .ok (.goto 10, 3) := by decide +kernel
theorem dX10_worth_72 : decode cX10_worth 72 = .ok (.aload_n 0, 1) := by decide +kernel
theorem dX10_worth_73 : decode cX10_worth 73 = .ok (.iload_n 1, 1) := by decide +kernel
theorem dX10_worth_74 : decode cX10_worth 74 = .ok (.iload 6, 2) := by decide +kernel
theorem dX10_worth_76 : decode cX10_worth 76 = .ok (.invokevirtual 161, 3) := by decide +kernel
theorem dX10_worth_79 : decode cX10_worth 79 = .ok (.iastore, 1) := by decide +kernel
theorem dX10_worth_80 : decode cX10_worth 80 = .ok (.iinc 5 1, 3) := by decide +kernel
theorem dX10_worth_83 : decode cX10_worth 83 = .ok (.goto (-47), 3) := by decide +kernel
theorem dX10_worth_86 : decode cX10_worth 86 = .ok (.iinc 4 1, 3) := by decide +kernel
theorem dX10_worth_89 : decode cX10_worth 89 = .ok (.goto (-62), 3) := by decide +kernel
theorem dX10_worth_92 : decode cX10_worth 92 = .ok (.iconst 1, 1) := by decide +kernel
theorem dX10_worth_93 : decode cX10_worth 93 = .ok (.aload_n 0, 1) := by decide +kernel
theorem dX10_worth_94 : decode cX10_worth 94 = .ok (.getfield 92, 3) := by decide +kernel
theorem dX10_worth_97 : decode cX10_worth 97 = .ok (.irem, 1) := by decide +kernel
theorem dX10_worth_98 : decode cX10_worth 98 = .ok (.istore 4, 2) := by decide +kernel
theorem dX10_worth_100 : decode cX10_worth 100 = .ok (.iconst 0, 1) := by decide +kernel
theorem dX10_worth_101 : decode cX10_worth 101 = .ok (.istore 5, 2) := by decide +kernel
theorem dX10_worth_103 : decode cX10_worth 103 = .ok (.iload 5, 2) := by decide +kernel
theorem dX10_worth_105 : decode cX10_worth 105 = .ok (.iload_n 3, 1) := by decide +kernel
theorem dX10_worth_106 : decode cX10_worth 106 = .ok (.if_icmp .ge 282, 3) := by decide +kernel
theorem dX10_worth_109 : decode cX10_worth 109 = .ok (.iload 5, 2) := by decide +kernel
theorem dX10_worth_111 : decode cX10_worth 111 = .ok (.istore 6, 2) := by decide +kernel
theorem dX10_worth_113 : decode cX10_worth 113 = .ok (.iload 6, 2) := by decide +kernel
theorem dX10_worth_115 : decode cX10_worth 115 = .ok (.iload_n 3, 1) := by decide +kernel
theorem dX10_worth_116 : decode cX10_worth 116 = .ok (.if_icmp .ge 25, 3) := by decide +kernel
theorem dX10_worth_119 : decode cX10_worth 119 = .ok (.aload_n 0, 1) := by decide +kernel
theorem dX10_worth_120 : decode cX10_worth 120 = .ok (.getfield 41, 3) := by decide +kernel
theorem dX10_worth_123 : decode cX10_worth 123 = .ok (.bipush 44, 2) := by decide +kernel
theorem dX10_worth_125 : decode cX10_worth 125 = .ok (.iload 6, 2) := by decide +kernel
theorem dX10_worth_127 : decode cX10_worth 127 = .ok (.imul, 1) := by decide +kernel
theorem dX10_worth_128 : decode cX10_worth 128 = .ok (.iload 5, 2) := by decide +kernel
theorem dX10_worth_130 : decode cX10_worth 130 = .ok (.iadd, 1) := by decide +kernel
theorem dX10_worth_131 : decode cX10_worth 131 = .ok (.iaload, 1) := by decide +kernel
theorem dX10_worth_132 : decode cX10_worth 132 = .ok (.ifCond .ne 9, 3) := by decide +kernel
theorem dX10_worth_135 : decode cX10_worth 135 = .ok (.iinc 6 1, 3) := by decide +kernel
theorem dX10_worth_138 : decode cX10_worth 138 = .ok (.goto (-25), 3) := by decide +kernel
theorem dX10_worth_141 : decode cX10_worth 141 = .ok (.iload 6, 2) := by decide +kernel
theorem dX10_worth_143 : decode cX10_worth 143 = .ok (.iload_n 3, 1) := by decide +kernel
theorem dX10_worth_144 : decode cX10_worth 144 = .ok (.if_icmp .ne 5, 3) := by decide +kernel
theorem dX10_worth_147 : decode cX10_worth 147 = .ok (.iconst 0, 1) := by decide +kernel
theorem dX10_worth_148 : decode cX10_worth 148 = .ok (.ireturn, 1) := by decide +kernel
theorem dX10_worth_149 : decode cX10_worth 149 = .ok (.iload 6, 2) := by decide +kernel
theorem dX10_worth_151 : decode cX10_worth 151 = .ok (.iload 5, 2) := by decide +kernel
theorem dX10_worth_153 : decode cX10_worth 153 = .ok (.if_icmp .eq 84, 3) := by decide +kernel
theorem dX10_worth_156 : decode cX10_worth 156 = .ok (.iconst 0, 1) := by decide +kernel
theorem dX10_worth_157 : decode cX10_worth 157 = .ok (.istore 7, 2) := by decide +kernel
theorem dX10_worth_159 : decode cX10_worth 159 = .ok (.iload 7, 2) := by decide +kernel
theorem dX10_worth_161 : decode cX10_worth 161 = .ok (.iload_n 3, 1) := by decide +kernel
theorem dX10_worth_162 : decode cX10_worth 162 = .ok (.if_icmp .ge 65, 3) := by decide +kernel
theorem dX10_worth_165 : decode cX10_worth 165 = .ok (.aload_n 0, 1) := by decide +kernel
theorem dX10_worth_166 : decode cX10_worth 166 = .ok (.getfield 41, 3) := by decide +kernel
theorem dX10_worth_169 : decode cX10_worth 169 = .ok (.bipush 44, 2) := by decide +kernel
theorem dX10_worth_171 : decode cX10_worth 171 = .ok (.iload 6, 2) := by decide +kernel
theorem dX10_worth_173 : decode cX10_worth 173 = .ok (.imul, 1) := by decide +kernel
theorem dX10_worth_174 : decode cX10_worth 174 = .ok (.iload 7, 2) := by decide +kernel
theorem dX10_worth_176 : decode cX10_worth 176 = .ok (.iadd, 1) := by decide +kernel
theorem dX10_worth_177 : decode cX10_worth 177 = .ok (.iaload, 1) := by decide +kernel
theorem dX10_worth_178 : decode cX10_worth 178 = .ok (.istore 8, 2) := by decide +kernel
theorem dX10_worth_180 : decode cX10_worth 180 = .ok (.aload_n 0, 1) := by decide +kernel
theorem dX10_worth_181 : decode cX10_worth 181 = .ok (.getfield 41, 3) := by decide +kernel
theorem dX10_worth_184 : decode cX10_worth 184 = .ok (.bipush 44, 2) := by decide +kernel
theorem dX10_worth_186 : decode cX10_worth 186 = .ok (.iload 6, 2) := by decide +kernel
theorem dX10_worth_188 : decode cX10_worth 188 = .ok (.imul, 1) := by decide +kernel
theorem dX10_worth_189 : decode cX10_worth 189 = .ok (.iload 7, 2) := by decide +kernel
theorem dX10_worth_191 : decode cX10_worth 191 = .ok (.iadd, 1) := by decide +kernel
theorem dX10_worth_192 : decode cX10_worth 192 = .ok (.aload_n 0, 1) := by decide +kernel
theorem dX10_worth_193 : decode cX10_worth 193 = .ok (.getfield 41, 3) := by decide +kernel
theorem dX10_worth_196 : decode cX10_worth 196 = .ok (.bipush 44, 2) := by decide +kernel
theorem dX10_worth_198 : decode cX10_worth 198 = .ok (.iload 5, 2) := by decide +kernel
theorem dX10_worth_200 : decode cX10_worth 200 = .ok (.imul, 1) := by decide +kernel
theorem dX10_worth_201 : decode cX10_worth 201 = .ok (.iload 7, 2) := by decide +kernel
theorem dX10_worth_203 : decode cX10_worth 203 = .ok (.iadd, 1) := by decide +kernel
theorem dX10_worth_204 : decode cX10_worth 204 = .ok (.iaload, 1) := by decide +kernel
theorem dX10_worth_205 : decode cX10_worth 205 = .ok (.iastore, 1) := by decide +kernel
theorem dX10_worth_206 : decode cX10_worth 206 = .ok (.aload_n 0, 1) := by decide +kernel
theorem dX10_worth_207 : decode cX10_worth 207 = .ok (.getfield 41, 3) := by decide +kernel
theorem dX10_worth_210 : decode cX10_worth 210 = .ok (.bipush 44, 2) := by decide +kernel
theorem dX10_worth_212 : decode cX10_worth 212 = .ok (.iload 5, 2) := by decide +kernel
theorem dX10_worth_214 : decode cX10_worth 214 = .ok (.imul, 1) := by decide +kernel
theorem dX10_worth_215 : decode cX10_worth 215 = .ok (.iload 7, 2) := by decide +kernel
theorem dX10_worth_217 : decode cX10_worth 217 = .ok (.iadd, 1) := by decide +kernel
theorem dX10_worth_218 : decode cX10_worth 218 = .ok (.iload 8, 2) := by decide +kernel
theorem dX10_worth_220 : decode cX10_worth 220 = .ok (.iastore, 1) := by decide +kernel
theorem dX10_worth_221 : decode cX10_worth 221 = .ok (.iinc 7 1, 3) := by decide +kernel
theorem dX10_worth_224 : decode cX10_worth 224 = .ok (.goto (-65), 3) := by decide +kernel
theorem dX10_worth_227 : decode cX10_worth 227 = .ok (.aload_n 0, 1) := by decide +kernel
theorem dX10_worth_228 : decode cX10_worth 228 = .ok (.iload 4, 2) := by decide +kernel
theorem dX10_worth_230 : decode cX10_worth 230 = .ok (.ineg, 1) := by decide +kernel
theorem dX10_worth_231 : decode cX10_worth 231 = .ok (.i2l, 1) := by decide +kernel
theorem dX10_worth_232 : decode cX10_worth 232 = .ok (.invokevirtual 135, 3) := by decide +kernel
theorem dX10_worth_235 : decode cX10_worth 235 = .ok (.istore 4, 2) := by decide +kernel
theorem dX10_worth_237 : decode cX10_worth 237 = .ok (.aload_n 0, 1) := by decide +kernel
theorem dX10_worth_238 : decode cX10_worth 238 = .ok (.aload_n 0, 1) := by decide +kernel
theorem dX10_worth_239 : decode cX10_worth 239 = .ok (.getfield 41, 3) := by decide +kernel
theorem dX10_worth_242 : decode cX10_worth 242 = .ok (.bipush 44, 2) := by decide +kernel
theorem dX10_worth_244 : decode cX10_worth 244 = .ok (.iload 5, 2) := by decide +kernel
theorem dX10_worth_246 : decode cX10_worth 246 = .ok (.imul, 1) := by decide +kernel
theorem dX10_worth_247 : decode cX10_worth 247 = .ok (.iload 5, 2) := by decide +kernel
theorem dX10_worth_249 : decode cX10_worth 249 = .ok (.iadd, 1) := by decide +kernel
theorem dX10_worth_250 : decode cX10_worth 250 = .ok (.iaload, 1) := by decide +kernel
theorem dX10_worth_251 : decode cX10_worth 251 = .ok (.invokevirtual 142, 3) := by decide +kernel
theorem dX10_worth_254 : decode cX10_worth 254 = .ok (.istore 7, 2) := by decide +kernel
theorem dX10_worth_256 : decode cX10_worth 256 = .ok (.aload_n 0, 1) := by decide +kernel
theorem dX10_worth_257 : decode cX10_worth 257 = .ok (.iload 4, 2) := by decide +kernel
theorem dX10_worth_259 : decode cX10_worth 259 = .ok (.aload_n 0, 1) := by decide +kernel
theorem dX10_worth_260 : decode cX10_worth 260 = .ok (.getfield 41, 3) := by decide +kernel
theorem dX10_worth_263 : decode cX10_worth 263 = .ok (.bipush 44, 2) := by decide +kernel
theorem dX10_worth_265 : decode cX10_worth 265 = .ok (.iload 5, 2) := by decide +kernel
theorem dX10_worth_267 : decode cX10_worth 267 = .ok (.imul, 1) := by decide +kernel
theorem dX10_worth_268 : decode cX10_worth 268 = .ok (.iload 5, 2) := by decide +kernel
theorem dX10_worth_270 : decode cX10_worth 270 = .ok (.iadd, 1) := by decide +kernel
theorem dX10_worth_271 : decode cX10_worth 271 = .ok (.iaload, 1) := by decide +kernel
theorem dX10_worth_272 : decode cX10_worth 272 = .ok (.invokevirtual 99, 3) := by decide +kernel
theorem dX10_worth_275 : decode cX10_worth 275 = .ok (.istore 4, 2) := by decide +kernel
theorem dX10_worth_277 : decode cX10_worth 277 = .ok (.iload 5, 2) := by decide +kernel
theorem dX10_worth_279 : decode cX10_worth 279 = .ok (.iconst 1, 1) := by decide +kernel
theorem dX10_worth_280 : decode cX10_worth 280 = .ok (.iadd, 1) := by decide +kernel
theorem dX10_worth_281 : decode cX10_worth 281 = .ok (.istore 8, 2) := by decide +kernel
theorem dX10_worth_283 : decode cX10_worth 283 = .ok (.iload 8, 2) := by decide +kernel
theorem dX10_worth_285 : decode cX10_worth 285 = .ok (.iload_n 3, 1) := by decide +kernel
theorem dX10_worth_286 : decode cX10_worth 286 = .ok (.if_icmp .ge 96, 3) := by decide +kernel
theorem dX10_worth_289 : decode cX10_worth 289 = .ok (.aload_n 0, 1) := by decide +kernel
theorem dX10_worth_290 : decode cX10_worth 290 = .ok (.aload_n 0, 1) := by decide +kernel
theorem dX10_worth_291 : decode cX10_worth 291 = .ok (.getfield 41, 3) := by decide +kernel
theorem dX10_worth_294 : decode cX10_worth 294 = .ok (.bipush 44, 2) := by decide +kernel
theorem dX10_worth_296 : decode cX10_worth 296 = .ok (.iload 8, 2) := by decide +kernel
theorem dX10_worth_298 : decode cX10_worth 298 = .ok (.imul, 1) := by decide +kernel
theorem dX10_worth_299 : decode cX10_worth 299 = .ok (.iload 5, 2) := by decide +kernel
theorem dX10_worth_301 : decode cX10_worth 301 = .ok (.iadd, 1) := by decide +kernel
theorem dX10_worth_302 : decode cX10_worth 302 = .ok (.iaload, 1) := by decide +kernel
theorem dX10_worth_303 : decode cX10_worth 303 = .ok (.iload 7, 2) := by decide +kernel
theorem dX10_worth_305 : decode cX10_worth 305 = .ok (.invokevirtual 99, 3) := by decide +kernel
theorem dX10_worth_308 : decode cX10_worth 308 = .ok (.istore 9, 2) := by decide +kernel
theorem dX10_worth_310 : decode cX10_worth 310 = .ok (.iload 5, 2) := by decide +kernel
theorem dX10_worth_312 : decode cX10_worth 312 = .ok (.istore 10, 2) := by decide +kernel
theorem dX10_worth_314 : decode cX10_worth 314 = .ok (.iload 10, 2) := by decide +kernel
theorem dX10_worth_316 : decode cX10_worth 316 = .ok (.iload_n 3, 1) := by decide +kernel
theorem dX10_worth_317 : decode cX10_worth 317 = .ok (.if_icmp .ge 59, 3) := by decide +kernel
theorem dX10_worth_320 : decode cX10_worth 320 = .ok (.aload_n 0, 1) := by decide +kernel
theorem dX10_worth_321 : decode cX10_worth 321 = .ok (.getfield 41, 3) := by decide +kernel
theorem dX10_worth_324 : decode cX10_worth 324 = .ok (.bipush 44, 2) := by decide +kernel
theorem dX10_worth_326 : decode cX10_worth 326 = .ok (.iload 8, 2) := by decide +kernel
theorem dX10_worth_328 : decode cX10_worth 328 = .ok (.imul, 1) := by decide +kernel
theorem dX10_worth_329 : decode cX10_worth 329 = .ok (.iload 10, 2) := by decide +kernel
theorem dX10_worth_331 : decode cX10_worth 331 = .ok (.iadd, 1) := by decide +kernel
theorem dX10_worth_332 : decode cX10_worth 332 = .ok (.aload_n 0, 1) := by decide +kernel
theorem dX10_worth_333 : decode cX10_worth 333 = .ok (.aload_n 0, 1) := by decide +kernel
theorem dX10_worth_334 : decode cX10_worth 334 = .ok (.getfield 41, 3) := by decide +kernel
theorem dX10_worth_337 : decode cX10_worth 337 = .ok (.bipush 44, 2) := by decide +kernel
theorem dX10_worth_339 : decode cX10_worth 339 = .ok (.iload 8, 2) := by decide +kernel
theorem dX10_worth_341 : decode cX10_worth 341 = .ok (.imul, 1) := by decide +kernel
theorem dX10_worth_342 : decode cX10_worth 342 = .ok (.iload 10, 2) := by decide +kernel
theorem dX10_worth_344 : decode cX10_worth 344 = .ok (.iadd, 1) := by decide +kernel
theorem dX10_worth_345 : decode cX10_worth 345 = .ok (.iaload, 1) := by decide +kernel
theorem dX10_worth_346 : decode cX10_worth 346 = .ok (.i2l, 1) := by decide +kernel
theorem dX10_worth_347 : decode cX10_worth 347 = .ok (.iload 9, 2) := by decide +kernel
theorem dX10_worth_349 : decode cX10_worth 349 = .ok (.i2l, 1) := by decide +kernel
theorem dX10_worth_350 : decode cX10_worth 350 = .ok (.aload_n 0, 1) := by decide +kernel
theorem dX10_worth_351 : decode cX10_worth 351 = .ok (.getfield 41, 3) := by decide +kernel
theorem dX10_worth_354 : decode cX10_worth 354 = .ok (.bipush 44, 2) := by decide +kernel
theorem dX10_worth_356 : decode cX10_worth 356 = .ok (.iload 5, 2) := by decide +kernel
theorem dX10_worth_358 : decode cX10_worth 358 = .ok (.imul, 1) := by decide +kernel
theorem dX10_worth_359 : decode cX10_worth 359 = .ok (.iload 10, 2) := by decide +kernel
theorem dX10_worth_361 : decode cX10_worth 361 = .ok (.iadd, 1) := by decide +kernel
theorem dX10_worth_362 : decode cX10_worth 362 = .ok (.iaload, 1) := by decide +kernel
theorem dX10_worth_363 : decode cX10_worth 363 = .ok (.i2l, 1) := by decide +kernel
theorem dX10_worth_364 : decode cX10_worth 364 = .ok (.lmul, 1) := by decide +kernel
theorem dX10_worth_365 : decode cX10_worth 365 = .ok (.lsub, 1) := by decide +kernel
theorem dX10_worth_366 : decode cX10_worth 366 = .ok (.invokevirtual 135, 3) := by decide +kernel
theorem dX10_worth_369 : decode cX10_worth 369 = .ok (.iastore, 1) := by decide +kernel
theorem dX10_worth_370 : decode cX10_worth 370 = .ok (.iinc 10 1, 3) := by decide +kernel
theorem dX10_worth_373 : decode cX10_worth 373 = .ok (.goto (-59), 3) := by decide +kernel
theorem dX10_worth_376 : decode cX10_worth 376 = .ok (.iinc 8 1, 3) := by decide +kernel
theorem dX10_worth_379 : decode cX10_worth 379 = .ok (.goto (-96), 3) := by decide +kernel
theorem dX10_worth_382 : decode cX10_worth 382 = .ok (.iinc 5 1, 3) := by decide +kernel
theorem dX10_worth_385 : decode cX10_worth 385 = .ok (.goto (-282), 3) := by decide +kernel
theorem dX10_worth_388 : decode cX10_worth 388 = .ok (.iload 4, 2) := by decide +kernel
theorem dX10_worth_390 : decode cX10_worth 390 = .ok (.ireturn, 1) := by decide +kernel
theorem dX10_keepResult_0 : decode cX10_keepResult 0 = .ok (.iconst 0, 1) := by decide +kernel
theorem dX10_keepResult_1 : decode cX10_keepResult 1 = .ok (.istore_n 1, 1) := by decide +kernel
theorem dX10_keepResult_2 : decode cX10_keepResult 2 = .ok (.iload_n 1, 1) := by decide +kernel
theorem dX10_keepResult_3 : decode cX10_keepResult 3 = .ok (.bipush 46, 2) := by decide +kernel
theorem dX10_keepResult_5 : decode cX10_keepResult 5 = .ok (.if_icmp .ge 33, 3) := by decide +kernel
theorem dX10_keepResult_8 : decode cX10_keepResult 8 = .ok (.aload_n 0, 1) := by decide +kernel
theorem dX10_keepResult_9 : decode cX10_keepResult 9 = .ok (.getfield 65, 3) := by decide +kernel
theorem dX10_keepResult_12 : decode cX10_keepResult 12 = .ok (.iload_n 1, 1) := by decide +kernel
theorem dX10_keepResult_13 : decode cX10_keepResult 13 = .ok (.aload_n 0, 1) := by decide +kernel
theorem dX10_keepResult_14 : decode cX10_keepResult 14 = .ok (.getfield 50, 3) := by decide +kernel
theorem dX10_keepResult_17 : decode cX10_keepResult 17 = .ok (.iload_n 1, 1) := by decide +kernel
theorem dX10_keepResult_18 : decode cX10_keepResult 18 = .ok (.iaload, 1) := by decide +kernel
theorem dX10_keepResult_19 : decode cX10_keepResult 19 = .ok (.iastore, 1) := by decide +kernel
theorem dX10_keepResult_20 : decode cX10_keepResult 20 = .ok (.aload_n 0, 1) := by decide +kernel
theorem dX10_keepResult_21 : decode cX10_keepResult 21 = .ok (.getfield 68, 3) := by decide +kernel
theorem dX10_keepResult_24 : decode cX10_keepResult 24 = .ok (.iload_n 1, 1) := by decide +kernel
theorem dX10_keepResult_25 : decode cX10_keepResult 25 = .ok (.aload_n 0, 1) := by decide +kernel
theorem dX10_keepResult_26 : decode cX10_keepResult 26 = .ok (.getfield 53, 3) := by decide +kernel
theorem dX10_keepResult_29 : decode cX10_keepResult 29 = .ok (.iload_n 1, 1) := by decide +kernel
theorem dX10_keepResult_30 : decode cX10_keepResult 30 = .ok (.iaload, 1) := by decide +kernel
theorem dX10_keepResult_31 : decode cX10_keepResult 31 = .ok (.iastore, 1) := by decide +kernel
theorem dX10_keepResult_32 : decode cX10_keepResult 32 = .ok (.iinc 1 1, 3) := by decide +kernel
theorem dX10_keepResult_35 : decode cX10_keepResult 35 = .ok (.goto (-33), 3) := by decide +kernel
theorem dX10_keepResult_38 : decode cX10_keepResult 38 = .ok (.return_, 1) := by decide +kernel
theorem dX10_resultBack_0 : decode cX10_resultBack 0 = .ok (.iconst 0, 1) := by decide +kernel
theorem dX10_resultBack_1 : decode cX10_resultBack 1 = .ok (.istore_n 1, 1) := by decide +kernel
theorem dX10_resultBack_2 : decode cX10_resultBack 2 = .ok (.iload_n 1, 1) := by decide +kernel
theorem dX10_resultBack_3 : decode cX10_resultBack 3 = .ok (.bipush 46, 2) := by decide +kernel
theorem dX10_resultBack_5 : decode cX10_resultBack 5 = .ok (.if_icmp .ge 33, 3) := by decide +kernel
theorem dX10_resultBack_8 : decode cX10_resultBack 8 = .ok (.aload_n 0, 1) := by decide +kernel
theorem dX10_resultBack_9 : decode cX10_resultBack 9 = .ok (.getfield 50, 3) := by decide +kernel
theorem dX10_resultBack_12 : decode cX10_resultBack 12 = .ok (.iload_n 1, 1) := by decide +kernel
theorem dX10_resultBack_13 : decode cX10_resultBack 13 = .ok (.aload_n 0, 1) := by decide +kernel
theorem dX10_resultBack_14 : decode cX10_resultBack 14 = .ok (.getfield 65, 3) := by decide +kernel
theorem dX10_resultBack_17 : decode cX10_resultBack 17 = .ok (.iload_n 1, 1) := by decide +kernel
theorem dX10_resultBack_18 : decode cX10_resultBack 18 = .ok (.iaload, 1) := by decide +kernel
theorem dX10_resultBack_19 : decode cX10_resultBack 19 = .ok (.iastore, 1) := by decide +kernel
theorem dX10_resultBack_20 : decode cX10_resultBack 20 = .ok (.aload_n 0, 1) := by decide +kernel
theorem dX10_resultBack_21 : decode cX10_resultBack 21 = .ok (.getfield 53, 3) := by decide +kernel
theorem dX10_resultBack_24 : decode cX10_resultBack 24 = .ok (.iload_n 1, 1) := by decide +kernel
theorem dX10_resultBack_25 : decode cX10_resultBack 25 = .ok (.aload_n 0, 1) := by decide +kernel
theorem dX10_resultBack_26 : decode cX10_resultBack 26 = .ok (.getfield 68, 3) := by decide +kernel
theorem dX10_resultBack_29 : decode cX10_resultBack 29 = .ok (.iload_n 1, 1) := by decide +kernel
theorem dX10_resultBack_30 : decode cX10_resultBack 30 = .ok (.iaload, 1) := by decide +kernel
theorem dX10_resultBack_31 : decode cX10_resultBack 31 = .ok (.iastore, 1) := by decide +kernel
theorem dX10_resultBack_32 : decode cX10_resultBack 32 = .ok (.iinc 1 1, 3) := by decide +kernel
theorem dX10_resultBack_35 : decode cX10_resultBack 35 = .ok (.goto (-33), 3) := by decide +kernel
theorem dX10_resultBack_38 : decode cX10_resultBack 38 = .ok (.return_, 1) := by decide +kernel
theorem dX10_block_0 : decode cX10_block 0 = .ok (.aload_n 0, 1) := by decide +kernel
theorem dX10_block_1 : decode cX10_block 1 = .ok (.iload_n 1, 1) := by decide +kernel
theorem dX10_block_2 : decode cX10_block 2 = .ok (.invokevirtual 155, 3) := by decide +kernel
theorem dX10_block_5 : decode cX10_block 5 = .ok (.ifCond .ne 6, 3) := by decide +kernel
theorem dX10_block_8 : decode cX10_block 8 = .ok (.bipush (-101), 2) := by decide +kernel
theorem dX10_block_10 : decode cX10_block 10 = .ok (.ireturn, 1) := by decide +kernel
theorem dX10_block_11 : decode cX10_block 11 = .ok (.aload_n 0, 1) := by decide +kernel
theorem dX10_block_12 : decode cX10_block 12 = .ok (.iload_n 1, 1) := by decide +kernel
theorem dX10_block_13 : decode cX10_block 13 = .ok (.iload_n 2, 1) := by decide +kernel
theorem dX10_block_14 : decode cX10_block 14 = .ok (.iload_n 3, 1) := by decide +kernel
theorem dX10_block_15 : decode cX10_block 15 = .ok (.invokevirtual 189, 3) := by decide +kernel
theorem dX10_block_18 : decode cX10_block 18 = .ok (.ifCond .eq 16, 3) := by decide +kernel
theorem dX10_block_21 : decode cX10_block 21 = .ok (.iload 4, 2) := by decide +kernel
theorem dX10_block_23 : decode cX10_block 23 = .ok (.i2l, 1) := by decide +kernel
theorem dX10_block_24 : decode cX10_block 24 = .ok (.lconst 0, 1) := by decide +kernel
theorem dX10_block_25 : decode cX10_block 25 = .ok (.ldc2_w 103, 3) := by decide +kernel
theorem dX10_block_28 : decode cX10_block 28 = .ok (.invokestatic 107, 3) := by decide +kernel
theorem dX10_block_31 : decode cX10_block 31 = .ok (.ifCond .ne 6, 3) := by decide +kernel
theorem dX10_block_34 : decode cX10_block 34 = .ok (.bipush (-102), 2) := by decide +kernel
theorem dX10_block_36 : decode cX10_block 36 = .ok (.ireturn, 1) := by decide +kernel
theorem dX10_block_37 : decode cX10_block 37 = .ok (.aload_n 0, 1) := by decide +kernel
theorem dX10_block_38 : decode cX10_block 38 = .ok (.invokevirtual 200, 3) := by decide +kernel
theorem dX10_block_41 : decode cX10_block 41 = .ok (.aload_n 0, 1) := by decide +kernel
theorem dX10_block_42 : decode cX10_block 42 = .ok (.iload_n 1, 1) := by decide +kernel
theorem dX10_block_43 : decode cX10_block 43 = .ok (.iload_n 2, 1) := by decide +kernel
theorem dX10_block_44 : decode cX10_block 44 = .ok (.iload_n 3, 1) := by decide +kernel
theorem dX10_block_45 : decode cX10_block 45 = .ok (.invokevirtual 193, 3) := by decide +kernel
theorem dX10_block_48 : decode cX10_block 48 = .ok (.aload_n 0, 1) := by decide +kernel
theorem dX10_block_49 : decode cX10_block 49 = .ok (.getfield 50, 3) := by decide +kernel
theorem dX10_block_52 : decode cX10_block 52 = .ok (.bipush 45, 2) := by decide +kernel
theorem dX10_block_54 : decode cX10_block 54 = .ok (.invokestatic 167, 3) := by decide +kernel
theorem dX10_block_57 : decode cX10_block 57 = .ok (.istore 5, 2) := by decide +kernel
theorem dX10_block_59 : decode cX10_block 59 = .ok (.aload_n 0, 1) := by decide +kernel
theorem dX10_block_60 : decode cX10_block 60 = .ok (.getfield 53, 3) := by decide +kernel
theorem dX10_block_63 : decode cX10_block 63 = .ok (.bipush 45, 2) := by decide +kernel
theorem dX10_block_65 : decode cX10_block 65 = .ok (.invokestatic 167, 3) := by decide +kernel
theorem dX10_block_68 : decode cX10_block 68 = .ok (.istore 6, 2) := by decide +kernel
theorem dX10_block_70 : decode cX10_block 70 = .ok (.aload_n 0, 1) := by decide +kernel
theorem dX10_block_71 : decode cX10_block 71 = .ok (.iload_n 1, 1) := by decide +kernel
theorem dX10_block_72 : decode cX10_block 72 = .ok (.invokevirtual 197, 3) := by decide +kernel
theorem dX10_block_75 : decode cX10_block 75 = .ok (.istore 7, 2) := by decide +kernel
theorem dX10_block_77 : decode cX10_block 77 = .ok (.aload_n 0, 1) := by decide +kernel
theorem dX10_block_78 : decode cX10_block 78 = .ok (.invokevirtual 203, 3) := by decide +kernel
theorem dX10_block_81 : decode cX10_block 81 = .ok (.iload 5, 2) := by decide +kernel
theorem dX10_block_83 : decode cX10_block 83 = .ok (.ifCond .ge 9, 3) := by decide +kernel
theorem dX10_block_86 : decode cX10_block 86 = .ok (.aload_n 0, 1) := by decide +kernel
theorem dX10_block_87 : decode cX10_block 87 = .ok (.iconst 5, 1) := by decide +kernel
theorem dX10_block_88 : decode cX10_block 88 = .ok (.invokevirtual 129, 3) := by decide +kernel
theorem dX10_block_91 : decode cX10_block 91 = .ok (.ireturn, 1) := by decide +kernel
theorem dX10_block_92 : decode cX10_block 92 = .ok (.iload 4, 2) := by decide +kernel
theorem dX10_block_94 : decode cX10_block 94 = .ok (.ifCond .ne 8, 3) := by decide +kernel
theorem dX10_block_97 : decode cX10_block 97 = .ok (.iload 5, 2) := by decide +kernel
theorem dX10_block_99 : decode cX10_block 99 = .ok (.goto 39, 3) := by decide +kernel
theorem dX10_block_102 : decode cX10_block 102 = .ok (.iload 4, 2) := by decide +kernel
theorem dX10_block_104 : decode cX10_block 104 = .ok (.iconst 1, 1) := by decide +kernel
theorem dX10_block_105 : decode cX10_block 105 = .ok (.if_icmp .ne 8, 3) := by decide +kernel
theorem dX10_block_108 : decode cX10_block 108 = .ok (.iload 6, 2) := by decide +kernel
theorem dX10_block_110 : decode cX10_block 110 = .ok (.goto 28, 3) := by decide +kernel
theorem dX10_block_113 : decode cX10_block 113 = .ok (.iload 7, 2) := by decide +kernel
theorem dX10_block_115 : decode cX10_block 115 = .ok (.aload_n 0, 1) := by decide +kernel
theorem dX10_block_116 : decode cX10_block 116 = .ok (.getfield 26, 3) := by decide +kernel
theorem dX10_block_119 : decode cX10_block 119 = .ok (.iload_n 1, 1) := by decide +kernel
theorem dX10_block_120 : decode cX10_block 120 = .ok (.iaload, 1) := by decide +kernel
theorem dX10_block_121 : decode cX10_block 121 = .ok (.iconst 1, 1) := by decide +kernel
theorem dX10_block_122 : decode cX10_block 122 = .ok (.iadd, 1) := by decide +kernel
theorem dX10_block_123 : decode cX10_block 123 = .ok (.if_icmp .ne 7, 3) := by decide +kernel
theorem dX10_block_126 : decode cX10_block 126 = .ok (.iconst (-1), 1) := by decide +kernel
theorem dX10_block_127 : decode cX10_block 127 = .ok (.goto 11, 3) := by decide +kernel
theorem dX10_block_130 : decode cX10_block 130 = .ok (.iload 7, 2) := by decide +kernel
theorem dX10_block_132 : decode cX10_block 132 = .ok (.iload 5, 2) := by decide +kernel
theorem dX10_block_134 : decode cX10_block 134 = .ok (.isub, 1) := by decide +kernel
theorem dX10_block_135 : decode cX10_block 135 = .ok (.iload 6, 2) := by decide +kernel
theorem dX10_block_137 : decode cX10_block 137 = .ok (.isub, 1) := by decide +kernel
theorem dX10_block_138 : decode cX10_block 138 = .ok (.ireturn, 1) := by decide +kernel
theorem dX10_stair_0 : decode cX10_stair 0 = .ok (.aload_n 0, 1) := by decide +kernel
theorem dX10_stair_1 : decode cX10_stair 1 = .ok (.iload_n 1, 1) := by decide +kernel
theorem dX10_stair_2 : decode cX10_stair 2 = .ok (.invokevirtual 155, 3) := by decide +kernel
theorem dX10_stair_5 : decode cX10_stair 5 = .ok (.ifCond .ne 6, 3) := by decide +kernel
theorem dX10_stair_8 : decode cX10_stair 8 = .ok (.bipush (-101), 2) := by decide +kernel
theorem dX10_stair_10 : decode cX10_stair 10 = .ok (.ireturn, 1) := by decide +kernel
theorem dX10_stair_11 : decode cX10_stair 11 = .ok (.aload_n 0, 1) := by decide +kernel
theorem dX10_stair_12 : decode cX10_stair 12 = .ok (.getfield 26, 3) := by decide +kernel
theorem dX10_stair_15 : decode cX10_stair 15 = .ok (.iload_n 1, 1) := by decide +kernel
theorem dX10_stair_16 : decode cX10_stair 16 = .ok (.iaload, 1) := by decide +kernel
theorem dX10_stair_17 : decode cX10_stair 17 = .ok (.istore_n 3, 1) := by decide +kernel
theorem dX10_stair_18 : decode cX10_stair 18 = .ok (.iload_n 2, 1) := by decide +kernel
theorem dX10_stair_19 : decode cX10_stair 19 = .ok (.i2l, 1) := by decide +kernel
theorem dX10_stair_20 : decode cX10_stair 20 = .ok (.lconst 0, 1) := by decide +kernel
theorem dX10_stair_21 : decode cX10_stair 21 = .ok (.iload_n 3, 1) := by decide +kernel
theorem dX10_stair_22 : decode cX10_stair 22 = .ok (.i2l, 1) := by decide +kernel
theorem dX10_stair_23 : decode cX10_stair 23 = .ok (.invokestatic 107, 3) := by decide +kernel
theorem dX10_stair_26 : decode cX10_stair 26 = .ok (.ifCond .ne 6, 3) := by decide +kernel
theorem dX10_stair_29 : decode cX10_stair 29 = .ok (.bipush (-102), 2) := by decide +kernel
theorem dX10_stair_31 : decode cX10_stair 31 = .ok (.ireturn, 1) := by decide +kernel
theorem dX10_stair_32 : decode cX10_stair 32 = .ok (.iload_n 2, 1) := by decide +kernel
theorem dX10_stair_33 : decode cX10_stair 33 = .ok (.ifCond .ne 10, 3) := by decide +kernel
theorem dX10_stair_36 : decode cX10_stair 36 = .ok (.aload_n 0, 1) := by decide +kernel
theorem dX10_stair_37 : decode cX10_stair 37 = .ok (.iload_n 1, 1) := by decide +kernel
theorem dX10_stair_38 : decode cX10_stair 38 = .ok (.iconst 0, 1) := by decide +kernel
theorem dX10_stair_39 : decode cX10_stair 39 = .ok (.invokevirtual 161, 3) := by decide +kernel
theorem dX10_stair_42 : decode cX10_stair 42 = .ok (.ireturn, 1) := by decide +kernel
theorem dX10_stair_43 : decode cX10_stair 43 = .ok (.iconst 0, 1) := by decide +kernel
theorem dX10_stair_44 : decode cX10_stair 44 = .ok (.istore 4, 2) := by decide +kernel
theorem dX10_stair_46 : decode cX10_stair 46 = .ok (.iload 4, 2) := by decide +kernel
theorem dX10_stair_48 : decode cX10_stair 48 = .ok (.iload_n 3, 1) := by decide +kernel
theorem dX10_stair_49 : decode cX10_stair 49 = .ok (.if_icmp .ge 25, 3) := by decide +kernel
theorem dX10_stair_52 : decode cX10_stair 52 = .ok (.aload_n 0, 1) := by decide +kernel
theorem dX10_stair_53 : decode cX10_stair 53 = .ok (.getfield 71, 3) := by decide +kernel
theorem dX10_stair_56 : decode cX10_stair 56 = .ok (.iload 4, 2) := by decide +kernel
theorem dX10_stair_58 : decode cX10_stair 58 = .ok (.aload_n 0, 1) := by decide +kernel
theorem dX10_stair_59 : decode cX10_stair 59 = .ok (.iload_n 1, 1) := by decide +kernel
theorem dX10_stair_60 : decode cX10_stair 60 = .ok (.iload 4, 2) := by decide +kernel
theorem dX10_stair_62 : decode cX10_stair 62 = .ok (.iconst 1, 1) := by decide +kernel
theorem dX10_stair_63 : decode cX10_stair 63 = .ok (.iadd, 1) := by decide +kernel
theorem dX10_stair_64 : decode cX10_stair 64 = .ok (.invokevirtual 161, 3) := by decide +kernel
theorem dX10_stair_67 : decode cX10_stair 67 = .ok (.iastore, 1) := by decide +kernel
theorem dX10_stair_68 : decode cX10_stair 68 = .ok (.iinc 4 1, 3) := by decide +kernel
theorem dX10_stair_71 : decode cX10_stair 71 = .ok (.goto (-25), 3) := by decide +kernel
theorem dX10_stair_74 : decode cX10_stair 74 = .ok (.iconst 1, 1) := by decide +kernel
theorem dX10_stair_75 : decode cX10_stair 75 = .ok (.istore 4, 2) := by decide +kernel
theorem dX10_stair_77 : decode cX10_stair 77 = .ok (.iload 4, 2) := by decide +kernel
theorem dX10_stair_79 : decode cX10_stair 79 = .ok (.iload_n 2, 1) := by decide +kernel
theorem dX10_stair_80 : decode cX10_stair 80 = .ok (.if_icmp .ge 124, 3) := by decide +kernel
theorem dX10_stair_83 : decode cX10_stair 83 = .ok (.iload_n 3, 1) := by decide +kernel
theorem dX10_stair_84 : decode cX10_stair 84 = .ok (.iload 4, 2) := by decide +kernel
theorem dX10_stair_86 : decode cX10_stair 86 = .ok (.isub, 1) := by decide +kernel
theorem dX10_stair_87 : decode cX10_stair 87 = .ok (.iconst 1, 1) := by decide +kernel
theorem dX10_stair_88 : decode cX10_stair 88 = .ok (.iadd, 1) := by decide +kernel
theorem dX10_stair_89 : decode cX10_stair 89 = .ok (.istore 5, 2) := by decide +kernel
theorem dX10_stair_91 : decode cX10_stair 91 = .ok (.aload_n 0, 1) := by decide +kernel
theorem dX10_stair_92 : decode cX10_stair 92 = .ok (.getfield 71, 3) := by decide +kernel
theorem dX10_stair_95 : decode cX10_stair 95 = .ok (.iconst 0, 1) := by decide +kernel
theorem dX10_stair_96 : decode cX10_stair 96 = .ok (.iaload, 1) := by decide +kernel
theorem dX10_stair_97 : decode cX10_stair 97 = .ok (.ifCond .ne 9, 3) := by decide +kernel
theorem dX10_stair_100 : decode cX10_stair 100 = .ok (.aload_n 0, 1) := by decide +kernel
theorem dX10_stair_101 : decode cX10_stair 101 = .ok (.iconst 5, 1) := by decide +kernel
theorem dX10_stair_102 : decode cX10_stair 102 = .ok (.invokevirtual 129, 3) := by decide +kernel
theorem dX10_stair_105 : decode cX10_stair 105 = .ok (.ireturn, 1) := by decide +kernel
theorem dX10_stair_106 : decode cX10_stair 106 = .ok (.aload_n 0, 1) := by decide +kernel
theorem dX10_stair_107 : decode cX10_stair 107 = .ok (.invokevirtual 145, 3) := by decide +kernel
theorem dX10_stair_110 : decode cX10_stair 110 = .ok (.aload_n 0, 1) := by decide +kernel
theorem dX10_stair_111 : decode cX10_stair 111 = .ok (.getfield 35, 3) := by decide +kernel
theorem dX10_stair_114 : decode cX10_stair 114 = .ok (.iconst 0, 1) := by decide +kernel
theorem dX10_stair_115 : decode cX10_stair 115 = .ok (.aload_n 0, 1) := by decide +kernel
theorem dX10_stair_116 : decode cX10_stair 116 = .ok (.getfield 71, 3) := by decide +kernel
theorem dX10_stair_119 : decode cX10_stair 119 = .ok (.iconst 0, 1) := by decide +kernel
theorem dX10_stair_120 : decode cX10_stair 120 = .ok (.iaload, 1) := by decide +kernel
theorem dX10_stair_121 : decode cX10_stair 121 = .ok (.iastore, 1) := by decide +kernel
theorem dX10_stair_122 : decode cX10_stair 122 = .ok (.iconst 0, 1) := by decide +kernel
theorem dX10_stair_123 : decode cX10_stair 123 = .ok (.istore 6, 2) := by decide +kernel
theorem dX10_stair_125 : decode cX10_stair 125 = .ok (.iload 6, 2) := by decide +kernel
theorem dX10_stair_127 : decode cX10_stair 127 = .ok (.iload 5, 2) := by decide +kernel
theorem dX10_stair_129 : decode cX10_stair 129 = .ok (.if_icmp .ge 23, 3) := by decide +kernel
theorem dX10_stair_132 : decode cX10_stair 132 = .ok (.aload_n 0, 1) := by decide +kernel
theorem dX10_stair_133 : decode cX10_stair 133 = .ok (.getfield 38, 3) := by decide +kernel
theorem dX10_stair_136 : decode cX10_stair 136 = .ok (.iload 6, 2) := by decide +kernel
theorem dX10_stair_138 : decode cX10_stair 138 = .ok (.aload_n 0, 1) := by decide +kernel
theorem dX10_stair_139 : decode cX10_stair 139 = .ok (.getfield 71, 3) := by decide +kernel
theorem dX10_stair_142 : decode cX10_stair 142 = .ok (.iload 6, 2) := by decide +kernel
theorem dX10_stair_144 : decode cX10_stair 144 = .ok (.iaload, 1) := by decide +kernel
theorem dX10_stair_145 : decode cX10_stair 145 = .ok (.iastore, 1) := by decide +kernel
theorem dX10_stair_146 : decode cX10_stair 146 = .ok (.iinc 6 1, 3) := by decide +kernel
theorem dX10_stair_149 : decode cX10_stair 149 = .ok (.goto (-24), 3) := by decide +kernel
theorem dX10_stair_152 : decode cX10_stair 152 = .ok (.aload_n 0, 1) := by decide +kernel
theorem dX10_stair_153 : decode cX10_stair 153 = .ok (.aload_n 0, 1) := by decide +kernel
theorem dX10_stair_154 : decode cX10_stair 154 = .ok (.getfield 74, 3) := by decide +kernel
theorem dX10_stair_157 : decode cX10_stair 157 = .ok (.iload 5, 2) := by decide +kernel
theorem dX10_stair_159 : decode cX10_stair 159 = .ok (.iconst 1, 1) := by decide +kernel
theorem dX10_stair_160 : decode cX10_stair 160 = .ok (.isub, 1) := by decide +kernel
theorem dX10_stair_161 : decode cX10_stair 161 = .ok (.invokevirtual 148, 3) := by decide +kernel
theorem dX10_stair_164 : decode cX10_stair 164 = .ok (.iconst 0, 1) := by decide +kernel
theorem dX10_stair_165 : decode cX10_stair 165 = .ok (.istore 6, 2) := by decide +kernel
theorem dX10_stair_167 : decode cX10_stair 167 = .ok (.iload 6, 2) := by decide +kernel
theorem dX10_stair_169 : decode cX10_stair 169 = .ok (.iconst 1, 1) := by decide +kernel
theorem dX10_stair_170 : decode cX10_stair 170 = .ok (.iadd, 1) := by decide +kernel
theorem dX10_stair_171 : decode cX10_stair 171 = .ok (.iload 5, 2) := by decide +kernel
theorem dX10_stair_173 : decode cX10_stair 173 = .ok (.if_icmp .ge 25, 3) := by decide +kernel
theorem dX10_stair_176 : decode cX10_stair 176 = .ok (.aload_n 0, 1) := by decide +kernel
theorem dX10_stair_177 : decode cX10_stair 177 = .ok (.getfield 71, 3) := by decide +kernel
theorem dX10_stair_180 : decode cX10_stair 180 = .ok (.iload 6, 2) := by decide +kernel
theorem dX10_stair_182 : decode cX10_stair 182 = .ok (.aload_n 0, 1) := by decide +kernel
theorem dX10_stair_183 : decode cX10_stair 183 = .ok (.getfield 74, 3) := by decide +kernel
theorem dX10_stair_186 : decode cX10_stair 186 = .ok (.iload 6, 2) := by decide +kernel
theorem dX10_stair_188 : decode cX10_stair 188 = .ok (.iconst 1, 1) := by decide +kernel
theorem dX10_stair_189 : decode cX10_stair 189 = .ok (.iadd, 1) := by decide +kernel
theorem dX10_stair_190 : decode cX10_stair 190 = .ok (.iaload, 1) := by decide +kernel
theorem dX10_stair_191 : decode cX10_stair 191 = .ok (.iastore, 1) := by decide +kernel
theorem dX10_stair_192 : decode cX10_stair 192 = .ok (.iinc 6 1, 3) := by decide +kernel
theorem dX10_stair_195 : decode cX10_stair 195 = .ok (.goto (-28), 3) := by decide +kernel
theorem dX10_stair_198 : decode cX10_stair 198 = .ok (.iinc 4 1, 3) := by decide +kernel
theorem dX10_stair_201 : decode cX10_stair 201 = .ok (.goto (-124), 3) := by decide +kernel
theorem dX10_stair_204 : decode cX10_stair 204 = .ok (.aload_n 0, 1) := by decide +kernel
theorem dX10_stair_205 : decode cX10_stair 205 = .ok (.getfield 71, 3) := by decide +kernel
theorem dX10_stair_208 : decode cX10_stair 208 = .ok (.iconst 0, 1) := by decide +kernel
theorem dX10_stair_209 : decode cX10_stair 209 = .ok (.iaload, 1) := by decide +kernel
theorem dX10_stair_210 : decode cX10_stair 210 = .ok (.ireturn, 1) := by decide +kernel
