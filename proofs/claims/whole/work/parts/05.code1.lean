theorem dX4_least_0 : decode cX4_least 0 = .ok (.aload_n 0, 1) := by decide +kernel
theorem dX4_least_1 : decode cX4_least 1 = .ok (.getfield 10, 3) := by decide +kernel
theorem dX4_least_4 : decode cX4_least 4 = .ok (.astore_n 3, 1) := by decide +kernel
theorem dX4_least_5 : decode cX4_least 5 = .ok (.aload_n 0, 1) := by decide +kernel
theorem dX4_least_6 : decode cX4_least 6 = .ok (.getfield 16, 3) := by decide +kernel
theorem dX4_least_9 : decode cX4_least 9 = .ok (.astore 4, 2) := by decide +kernel
theorem dX4_least_11 : decode cX4_least 11 = .ok (.aload_n 0, 1) := by decide +kernel
theorem dX4_least_12 : decode cX4_least 12 = .ok (.getfield 19, 3) := by decide +kernel
theorem dX4_least_15 : decode cX4_least 15 = .ok (.astore 5, 2) := by decide +kernel
theorem dX4_least_17 : decode cX4_least 17 = .ok (.aload_n 3, 1) := by decide +kernel
theorem dX4_least_18 : decode cX4_least 18 = .ok (.iconst 1, 1) := by decide +kernel
theorem dX4_least_19 : decode cX4_least 19 = .ok (.invokevirtual 22, 3) := by decide +kernel
theorem dX4_least_22 : decode cX4_least 22 = .ok (.aload 4, 2) := by decide +kernel
theorem dX4_least_24 : decode cX4_least 24 = .ok (.iconst 1, 1) := by decide +kernel
theorem dX4_least_25 : decode cX4_least 25 = .ok (.invokevirtual 22, 3) := by decide +kernel
theorem dX4_least_28 : decode cX4_least 28 = .ok (.iconst 0, 1) := by decide +kernel
theorem dX4_least_29 : decode cX4_least 29 = .ok (.istore 6, 2) := by decide +kernel
theorem dX4_least_31 : decode cX4_least 31 = .ok (.iconst 1, 1) := by decide +kernel
theorem dX4_least_32 : decode cX4_least 32 = .ok (.istore 7, 2) := by decide +kernel
theorem dX4_least_34 : decode cX4_least 34 = .ok (.iconst 1, 1) := by decide +kernel
theorem dX4_least_35 : decode cX4_least 35 = .ok (.istore 8, 2) := by decide +kernel
theorem dX4_least_37 : decode cX4_least 37 = .ok (.iconst 0, 1) := by decide +kernel
theorem dX4_least_38 : decode cX4_least 38 = .ok (.istore 9, 2) := by decide +kernel
theorem dX4_least_40 : decode cX4_least 40 = .ok (.iload 9, 2) := by decide +kernel
theorem dX4_least_42 : decode cX4_least 42 = .ok (.aload_n 1, 1) := by decide +kernel
theorem dX4_least_43 : decode cX4_least 43 = .ok (.getfield 26, 3) := by decide +kernel
theorem dX4_least_46 : decode cX4_least 46 = .ok (.if_icmp .gt 102, 3) := by decide +kernel
theorem dX4_least_49 : decode cX4_least 49 = .ok (.aload_n 0, 1) := by decide +kernel
theorem dX4_least_50 : decode cX4_least 50 = .ok (.iload 9, 2) := by decide +kernel
theorem dX4_least_52 : decode cX4_least 52 = .ok (.iload 6, 2) := by decide +kernel
theorem dX4_least_54 : decode cX4_least 54 = .ok (.aload_n 3, 1) := by decide +kernel
theorem dX4_least_55 : decode cX4_least 55 = .ok (.aload_n 1, 1) := by decide +kernel
theorem dX4_least_56 : decode cX4_least 56 = .ok (.aload_n 2, 1) := by decide +kernel
theorem dX4_least_57 : decode cX4_least 57 = .ok (.invokevirtual 32, 3) := by decide +kernel
theorem dX4_least_60 : decode cX4_least 60 = .ok (.istore 10, 2) := by decide +kernel
theorem dX4_least_62 : decode cX4_least 62 = .ok (.iload 10, 2) := by decide +kernel
theorem dX4_least_64 : decode cX4_least 64 = .ok (.ifCond .eq 75, 3) := by decide +kernel
theorem dX4_least_67 : decode cX4_least 67 = .ok (.aload_n 2, 1) := by decide +kernel
theorem dX4_least_68 : decode cX4_least 68 = .ok (.iload 10, 2) := by decide +kernel
theorem dX4_least_70 : decode cX4_least 70 = .ok (.aload_n 2, 1) := by decide +kernel
theorem dX4_least_71 : decode cX4_least 71 = .ok (.iload 8, 2) := by decide +kernel
theorem dX4_least_73 : decode cX4_least 73 = .ok (.invokevirtual 36, 3) := by decide +kernel
theorem dX4_least_76 : decode cX4_least 76 = .ok (.invokevirtual 42, 3) := by decide +kernel
theorem dX4_least_79 : decode cX4_least 79 = .ok (.istore 11, 2) := by decide +kernel
theorem dX4_least_81 : decode cX4_least 81 = .ok (.aload 5, 2) := by decide +kernel
theorem dX4_least_83 : decode cX4_least 83 = .ok (.aload_n 3, 1) := by decide +kernel
theorem dX4_least_84 : decode cX4_least 84 = .ok (.invokevirtual 46, 3) := by decide +kernel
theorem dX4_least_87 : decode cX4_least 87 = .ok (.aload_n 3, 1) := by decide +kernel
theorem dX4_least_88 : decode cX4_least 88 = .ok (.aload 4, 2) := by decide +kernel
theorem dX4_least_90 : decode cX4_least 90 = .ok (.aload_n 2, 1) := by decide +kernel
theorem dX4_least_91 : decode cX4_least 91 = .ok (.iload 11, 2) := by decide +kernel
theorem dX4_least_93 : decode cX4_least 93 = .ok (.invokevirtual 50, 3) := by decide +kernel
theorem dX4_least_96 : decode cX4_least 96 = .ok (.iload 7, 2) := by decide +kernel
theorem dX4_least_98 : decode cX4_least 98 = .ok (.aload_n 2, 1) := by decide +kernel
theorem dX4_least_99 : decode cX4_least 99 = .ok (.invokevirtual 53, 3) := by decide +kernel
theorem dX4_least_102 : decode cX4_least 102 = .ok (.iconst 2, 1) := by decide +kernel
theorem dX4_least_103 : decode cX4_least 103 = .ok (.iload 6, 2) := by decide +kernel
theorem dX4_least_105 : decode cX4_least 105 = .ok (.imul, 1) := by decide +kernel
theorem dX4_least_106 : decode cX4_least 106 = .ok (.iload 9, 2) := by decide +kernel
theorem dX4_least_108 : decode cX4_least 108 = .ok (.if_icmp .gt 31, 3) := by decide +kernel
theorem dX4_least_111 : decode cX4_least 111 = .ok (.iload 9, 2) := by decide +kernel
theorem dX4_least_113 : decode cX4_least 113 = .ok (.iconst 1, 1) := by decide +kernel
theorem dX4_least_114 : decode cX4_least 114 = .ok (.iadd, 1) := by decide +kernel
theorem dX4_least_115 : decode cX4_least 115 = .ok (.iload 6, 2) := by decide +kernel
theorem dX4_least_117 : decode cX4_least 117 = .ok (.isub, 1) := by decide +kernel
theorem dX4_least_118 : decode cX4_least 118 = .ok (.istore 6, 2) := by decide +kernel
theorem dX4_least_120 : decode cX4_least 120 = .ok (.iload 10, 2) := by decide +kernel
theorem dX4_least_122 : decode cX4_least 122 = .ok (.istore 8, 2) := by decide +kernel
theorem dX4_least_124 : decode cX4_least 124 = .ok (.iconst 0, 1) := by decide +kernel
theorem dX4_least_125 : decode cX4_least 125 = .ok (.istore 7, 2) := by decide +kernel
theorem dX4_least_127 : decode cX4_least 127 = .ok (.aload 4, 2) := by decide +kernel
theorem dX4_least_129 : decode cX4_least 129 = .ok (.astore 12, 2) := by decide +kernel
theorem dX4_least_131 : decode cX4_least 131 = .ok (.aload 5, 2) := by decide +kernel
theorem dX4_least_133 : decode cX4_least 133 = .ok (.astore 4, 2) := by decide +kernel
theorem dX4_least_135 : decode cX4_least 135 = .ok (.aload 12, 2) := by decide +kernel
theorem dX4_least_137 : decode cX4_least 137 = .ok (.astore 5, 2) := by decide +kernel
theorem dX4_least_139 : decode cX4_least 139 = .ok (.iinc 7 1, 3) := by decide +kernel
theorem dX4_least_142 : decode cX4_least 142 = .ok (.iinc 9 1, 3) := by decide +kernel
theorem dX4_least_145 : decode cX4_least 145 = .ok (.goto (-105), 3) := by decide +kernel
theorem dX4_least_148 : decode cX4_least 148 = .ok (.iload 6, 2) := by decide +kernel
theorem dX4_least_150 : decode cX4_least 150 = .ok (.ireturn, 1) := by decide +kernel
theorem dX4_faultAt_0 : decode cX4_faultAt 0 = .ok (.lconst 0, 1) := by decide +kernel
theorem dX4_faultAt_1 : decode cX4_faultAt 1 = .ok (.lstore 6, 2) := by decide +kernel
theorem dX4_faultAt_3 : decode cX4_faultAt 3 = .ok (.iconst 0, 1) := by decide +kernel
theorem dX4_faultAt_4 : decode cX4_faultAt 4 = .ok (.istore 8, 2) := by decide +kernel
theorem dX4_faultAt_6 : decode cX4_faultAt 6 = .ok (.iload 8, 2) := by decide +kernel
theorem dX4_faultAt_8 : decode cX4_faultAt 8 = .ok (.iload_n 2, 1) := by decide +kernel
theorem dX4_faultAt_9 : decode cX4_faultAt 9 = .ok (.if_icmp .gt 35, 3) := by decide +kernel
theorem dX4_faultAt_12 : decode cX4_faultAt 12 = .ok (.lload 6, 2) := by decide +kernel
theorem dX4_faultAt_14 : decode cX4_faultAt 14 = .ok (.aload_n 3, 1) := by decide +kernel
theorem dX4_faultAt_15 : decode cX4_faultAt 15 = .ok (.iload 8, 2) := by decide +kernel
theorem dX4_faultAt_17 : decode cX4_faultAt 17 = .ok (.invokevirtual 57, 3) := by decide +kernel
theorem dX4_faultAt_20 : decode cX4_faultAt 20 = .ok (.i2l, 1) := by decide +kernel
theorem dX4_faultAt_21 : decode cX4_faultAt 21 = .ok (.aload 4, 2) := by decide +kernel
theorem dX4_faultAt_23 : decode cX4_faultAt 23 = .ok (.getfield 60, 3) := by decide +kernel
theorem dX4_faultAt_26 : decode cX4_faultAt 26 = .ok (.iload_n 1, 1) := by decide +kernel
theorem dX4_faultAt_27 : decode cX4_faultAt 27 = .ok (.iload 8, 2) := by decide +kernel
theorem dX4_faultAt_29 : decode cX4_faultAt 29 = .ok (.isub, 1) := by decide +kernel
theorem dX4_faultAt_30 : decode cX4_faultAt 30 = .ok (.invokevirtual 57, 3) := by decide +kernel
theorem dX4_faultAt_33 : decode cX4_faultAt 33 = .ok (.i2l, 1) := by decide +kernel
theorem dX4_faultAt_34 : decode cX4_faultAt 34 = .ok (.lmul, 1) := by decide +kernel
theorem dX4_faultAt_35 : decode cX4_faultAt 35 = .ok (.ladd, 1) := by decide +kernel
theorem dX4_faultAt_36 : decode cX4_faultAt 36 = .ok (.lstore 6, 2) := by decide +kernel
theorem dX4_faultAt_38 : decode cX4_faultAt 38 = .ok (.iinc 8 1, 3) := by decide +kernel
theorem dX4_faultAt_41 : decode cX4_faultAt 41 = .ok (.goto (-35), 3) := by decide +kernel
theorem dX4_faultAt_44 : decode cX4_faultAt 44 = .ok (.aload 5, 2) := by decide +kernel
theorem dX4_faultAt_46 : decode cX4_faultAt 46 = .ok (.lload 6, 2) := by decide +kernel
theorem dX4_faultAt_48 : decode cX4_faultAt 48 = .ok (.invokevirtual 63, 3) := by decide +kernel
theorem dX4_faultAt_51 : decode cX4_faultAt 51 = .ok (.ireturn, 1) := by decide +kernel
theorem dX5_init_0 : decode cX5_init 0 = .ok (.aload_n 0, 1) := by decide +kernel
theorem dX5_init_1 : decode cX5_init 1 = .ok (.invokespecial 3, 3) := by decide +kernel
theorem dX5_init_4 : decode cX5_init 4 = .ok (.aload_n 0, 1) := by decide +kernel
theorem dX5_init_5 : decode cX5_init 5 = .ok (.sipush 30011, 3) := by decide +kernel
theorem dX5_init_8 : decode cX5_init 8 = .ok (.putfield 9, 3) := by decide +kernel
theorem dX5_init_11 : decode cX5_init 11 = .ok (.return_, 1) := by decide +kernel
theorem dX5_of_0 : decode cX5_of 0 = .ok (.aload_n 0, 1) := by decide +kernel
theorem dX5_of_1 : decode cX5_of 1 = .ok (.getfield 9, 3) := by decide +kernel
theorem dX5_of_4 : decode cX5_of 4 = .ok (.iconst 2, 1) := by decide +kernel
theorem dX5_of_5 : decode cX5_of 5 = .ok (.if_icmp .ge 5, 3) := by decide +kernel
theorem dX5_of_8 : decode cX5_of 8 = .ok (.iconst 0, 1) := by decide +kernel
theorem dX5_of_9 : decode cX5_of 9 = .ok (.ireturn, 1) := by decide +kernel
theorem dX5_of_10 : decode cX5_of 10 = .ok (.lload_n 1, 1) := by decide +kernel
theorem dX5_of_11 : decode cX5_of 11 = .ok (.aload_n 0, 1) := by decide +kernel
theorem dX5_of_12 : decode cX5_of 12 = .ok (.getfield 9, 3) := by decide +kernel
theorem dX5_of_15 : decode cX5_of 15 = .ok (.i2l, 1) := by decide +kernel
theorem dX5_of_16 : decode cX5_of 16 = .ok (.lrem, 1) := by decide +kernel
theorem dX5_of_17 : decode cX5_of 17 = .ok (.lstore_n 3, 1) := by decide +kernel
theorem dX5_of_18 : decode cX5_of 18 = .ok (.lload_n 3, 1) := by decide +kernel
theorem dX5_of_19 : decode cX5_of 19 = .ok (.lconst 0, 1) := by decide +kernel
theorem dX5_of_20 : decode cX5_of 20 = .ok (.lcmp, 1) := by decide +kernel
theorem dX5_of_21 : decode cX5_of 21 = .ok (.ifCond .ge 13, 3) := by decide +kernel
theorem dX5_of_24 : decode cX5_of 24 = .ok (.lload_n 3, 1) := by decide +kernel
theorem dX5_of_25 : decode cX5_of 25 = .ok (.aload_n 0, 1) := by decide +kernel
theorem dX5_of_26 : decode cX5_of 26 = .ok (.getfield 9, 3) := by decide +kernel
theorem dX5_of_29 : decode cX5_of 29 = .ok (.i2l, 1) := by decide +kernel
theorem dX5_of_30 : decode cX5_of 30 = .ok (.ladd, 1) := by decide +kernel
theorem dX5_of_31 : decode cX5_of 31 = .ok (.goto 4, 3) := by decide +kernel
theorem dX5_of_34 : decode cX5_of 34 = .ok (.lload_n 3, 1) := by decide +kernel
theorem dX5_of_35 : decode cX5_of 35 = .ok (.l2i, 1) := by decide +kernel
theorem dX5_of_36 : decode cX5_of 36 = .ok (.ireturn, 1) := by decide +kernel
theorem dX5_product_0 : decode cX5_product 0 = .ok (.aload_n 0, 1) := by decide +kernel
theorem dX5_product_1 : decode cX5_product 1 = .ok (.iload_n 1, 1) := by decide +kernel
theorem dX5_product_2 : decode cX5_product 2 = .ok (.i2l, 1) := by decide +kernel
theorem dX5_product_3 : decode cX5_product 3 = .ok (.iload_n 2, 1) := by decide +kernel
theorem dX5_product_4 : decode cX5_product 4 = .ok (.i2l, 1) := by decide +kernel
theorem dX5_product_5 : decode cX5_product 5 = .ok (.lmul, 1) := by decide +kernel
theorem dX5_product_6 : decode cX5_product 6 = .ok (.invokevirtual 15, 3) := by decide +kernel
theorem dX5_product_9 : decode cX5_product 9 = .ok (.ireturn, 1) := by decide +kernel
theorem dX5_negative_0 : decode cX5_negative 0 = .ok (.aload_n 0, 1) := by decide +kernel
theorem dX5_negative_1 : decode cX5_negative 1 = .ok (.iload_n 1, 1) := by decide +kernel
theorem dX5_negative_2 : decode cX5_negative 2 = .ok (.i2l, 1) := by decide +kernel
theorem dX5_negative_3 : decode cX5_negative 3 = .ok (.lneg, 1) := by decide +kernel
theorem dX5_negative_4 : decode cX5_negative 4 = .ok (.invokevirtual 15, 3) := by decide +kernel
theorem dX5_negative_7 : decode cX5_negative 7 = .ok (.ireturn, 1) := by decide +kernel
theorem dX5_inverse_0 : decode cX5_inverse 0 = .ok (.aload_n 0, 1) := by decide +kernel
theorem dX5_inverse_1 : decode cX5_inverse 1 = .ok (.getfield 9, 3) := by decide +kernel
theorem dX5_inverse_4 : decode cX5_inverse 4 = .ok (.iconst 2, 1) := by decide +kernel
theorem dX5_inverse_5 : decode cX5_inverse 5 = .ok (.isub, 1) := by decide +kernel
theorem dX5_inverse_6 : decode cX5_inverse 6 = .ok (.istore_n 2, 1) := by decide +kernel
theorem dX5_inverse_7 : decode cX5_inverse 7 = .ok (.iconst 1, 1) := by decide +kernel
theorem dX5_inverse_8 : decode cX5_inverse 8 = .ok (.istore_n 3, 1) := by decide +kernel
theorem dX5_inverse_9 : decode cX5_inverse 9 = .ok (.iload_n 1, 1) := by decide +kernel
theorem dX5_inverse_10 : decode cX5_inverse 10 = .ok (.istore 4, 2) := by decide +kernel
theorem dX5_inverse_12 : decode cX5_inverse 12 = .ok (.iconst 0, 1) := by decide +kernel
theorem dX5_inverse_13 : decode cX5_inverse 13 = .ok (.istore 5, 2) := by decide +kernel
theorem dX5_inverse_15 : decode cX5_inverse 15 = .ok (.iload 5, 2) := by decide +kernel
theorem dX5_inverse_17 : decode cX5_inverse 17 = .ok (.bipush 15, 2) := by decide +kernel
theorem dX5_inverse_19 : decode cX5_inverse 19 = .ok (.if_icmp .ge 43, 3) := by decide +kernel
theorem dX5_inverse_22 : decode cX5_inverse 22 = .ok (.iload_n 2, 1) := by decide +kernel
theorem dX5_inverse_23 : decode cX5_inverse 23 = .ok (.iload 5, 2) := by decide +kernel
theorem dX5_inverse_25 : decode cX5_inverse 25 = .ok (.ishr, 1) := by decide +kernel
theorem dX5_inverse_26 : decode cX5_inverse 26 = .ok (.iconst 1, 1) := by decide +kernel
theorem dX5_inverse_27 : decode cX5_inverse 27 = .ok (.iand, 1) := by decide +kernel
theorem dX5_inverse_28 : decode cX5_inverse 28 = .ok (.iconst 1, 1) := by decide +kernel
theorem dX5_inverse_29 : decode cX5_inverse 29 = .ok (.if_icmp .ne 14, 3) := by decide +kernel
theorem dX5_inverse_32 : decode cX5_inverse 32 = .ok (.aload_n 0, 1) := by decide +kernel
theorem dX5_inverse_33 : decode cX5_inverse 33 = .ok (.iload_n 3, 1) := by decide +kernel
theorem dX5_inverse_34 : decode cX5_inverse 34 = .ok (.i2l, 1) := by decide +kernel
theorem dX5_inverse_35 : decode cX5_inverse 35 = .ok (.iload 4, 2) := by decide +kernel
theorem dX5_inverse_37 : decode cX5_inverse 37 = .ok (.i2l, 1) := by decide +kernel
theorem dX5_inverse_38 : decode cX5_inverse 38 = .ok (.lmul, 1) := by decide +kernel
theorem dX5_inverse_39 : decode cX5_inverse 39 = .ok (.invokevirtual 15, 3) := by decide +kernel
theorem dX5_inverse_42 : decode cX5_inverse 42 = .ok (.istore_n 3, 1) := by decide +kernel
theorem dX5_inverse_43 : decode cX5_inverse 43 = .ok (.aload_n 0, 1) := by decide +kernel
theorem dX5_inverse_44 : decode cX5_inverse 44 = .ok (.iload 4, 2) := by decide +kernel
theorem dX5_inverse_46 : decode cX5_inverse 46 = .ok (.i2l, 1) := by decide +kernel
theorem dX5_inverse_47 : decode cX5_inverse 47 = .ok (.iload 4, 2) := by decide +kernel
theorem dX5_inverse_49 : decode cX5_inverse 49 = .ok (.i2l, 1) := by decide +kernel
theorem dX5_inverse_50 : decode cX5_inverse 50 = .ok (.lmul, 1) := by decide +kernel
theorem dX5_inverse_51 : decode cX5_inverse 51 = .ok (.invokevirtual 15, 3) := by decide +kernel
theorem dX5_inverse_54 : decode cX5_inverse 54 = .ok (.istore 4, 2) := by decide +kernel
theorem dX5_inverse_56 : decode cX5_inverse 56 = .ok (.iinc 5 1, 3) := by decide +kernel
theorem dX5_inverse_59 : decode cX5_inverse 59 = .ok (.goto (-44), 3) := by decide +kernel
theorem dX5_inverse_62 : decode cX5_inverse 62 = .ok (.iload_n 3, 1) := by decide +kernel
theorem dX5_inverse_63 : decode cX5_inverse 63 = .ok (.ireturn, 1) := by decide +kernel
theorem dX6_init_0 : decode cX6_init 0 = .ok (.aload_n 0, 1) := by decide +kernel
theorem dX6_init_1 : decode cX6_init 1 = .ok (.invokespecial 1, 3) := by decide +kernel
theorem dX6_init_4 : decode cX6_init 4 = .ok (.aload_n 0, 1) := by decide +kernel
theorem dX6_init_5 : decode cX6_init 5 = .ok (.new 7, 3) := by decide +kernel
theorem dX6_init_8 : decode cX6_init 8 = .ok (.dup, 1) := by decide +kernel
theorem dX6_init_9 : decode cX6_init 9 = .ok (.invokespecial 9, 3) := by decide +kernel
theorem dX6_init_12 : decode cX6_init 12 = .ok (.putfield 10, 3) := by decide +kernel
theorem dX6_init_15 : decode cX6_init 15 = .ok (.aload_n 0, 1) := by decide +kernel
theorem dX6_init_16 : decode cX6_init 16 = .ok (.iconst 0, 1) := by decide +kernel
theorem dX6_init_17 : decode cX6_init 17 = .ok (.putfield 16, 3) := by decide +kernel
theorem dX6_init_20 : decode cX6_init 20 = .ok (.return_, 1) := by decide +kernel
theorem dX7_init_0 : decode cX7_init 0 = .ok (.aload_n 0, 1) := by decide +kernel
theorem dX7_init_1 : decode cX7_init 1 = .ok (.invokespecial 1, 3) := by decide +kernel
theorem dX7_init_4 : decode cX7_init 4 = .ok (.aload_n 0, 1) := by decide +kernel
theorem dX7_init_5 : decode cX7_init 5 = .ok (.new 7, 3) := by decide +kernel
theorem dX7_init_8 : decode cX7_init 8 = .ok (.dup, 1) := by decide +kernel
theorem dX7_init_9 : decode cX7_init 9 = .ok (.invokespecial 9, 3) := by decide +kernel
theorem dX7_init_12 : decode cX7_init 12 = .ok (.putfield 10, 3) := by decide +kernel
theorem dX7_init_15 : decode cX7_init 15 = .ok (.aload_n 0, 1) := by decide +kernel
theorem dX7_init_16 : decode cX7_init 16 = .ok (.new 7, 3) := by decide +kernel
theorem dX7_init_19 : decode cX7_init 19 = .ok (.dup, 1) := by decide +kernel
theorem dX7_init_20 : decode cX7_init 20 = .ok (.invokespecial 9, 3) := by decide +kernel
theorem dX7_init_23 : decode cX7_init 23 = .ok (.putfield 16, 3) := by decide +kernel
theorem dX7_init_26 : decode cX7_init 26 = .ok (.aload_n 0, 1) := by decide +kernel
theorem dX7_init_27 : decode cX7_init 27 = .ok (.getfield 16, 3) := by decide +kernel
theorem dX7_init_30 : decode cX7_init 30 = .ok (.iconst 1, 1) := by decide +kernel
theorem dX7_init_31 : decode cX7_init 31 = .ok (.invokevirtual 19, 3) := by decide +kernel
theorem dX7_init_34 : decode cX7_init 34 = .ok (.return_, 1) := by decide +kernel
theorem dX7_becomeZero_0 : decode cX7_becomeZero 0 = .ok (.aload_n 0, 1) := by decide +kernel
theorem dX7_becomeZero_1 : decode cX7_becomeZero 1 = .ok (.getfield 10, 3) := by decide +kernel
theorem dX7_becomeZero_4 : decode cX7_becomeZero 4 = .ok (.iconst 0, 1) := by decide +kernel
theorem dX7_becomeZero_5 : decode cX7_becomeZero 5 = .ok (.invokevirtual 19, 3) := by decide +kernel
theorem dX7_becomeZero_8 : decode cX7_becomeZero 8 = .ok (.aload_n 0, 1) := by decide +kernel
theorem dX7_becomeZero_9 : decode cX7_becomeZero 9 = .ok (.getfield 16, 3) := by decide +kernel
theorem dX7_becomeZero_12 : decode cX7_becomeZero 12 = .ok (.iconst 1, 1) := by decide +kernel
theorem dX7_becomeZero_13 : decode cX7_becomeZero 13 = .ok (.invokevirtual 19, 3) := by decide +kernel
theorem dX7_becomeZero_16 : decode cX7_becomeZero 16 = .ok (.return_, 1) := by decide +kernel
theorem dX7_become_0 : decode cX7_become 0 = .ok (.aload_n 0, 1) := by decide +kernel
theorem dX7_become_1 : decode cX7_become 1 = .ok (.getfield 10, 3) := by decide +kernel
theorem dX7_become_4 : decode cX7_become 4 = .ok (.aload_n 1, 1) := by decide +kernel
theorem dX7_become_5 : decode cX7_become 5 = .ok (.getfield 10, 3) := by decide +kernel
theorem dX7_become_8 : decode cX7_become 8 = .ok (.invokevirtual 23, 3) := by decide +kernel
theorem dX7_become_11 : decode cX7_become 11 = .ok (.aload_n 0, 1) := by decide +kernel
theorem dX7_become_12 : decode cX7_become 12 = .ok (.getfield 16, 3) := by decide +kernel
theorem dX7_become_15 : decode cX7_become 15 = .ok (.aload_n 1, 1) := by decide +kernel
theorem dX7_become_16 : decode cX7_become 16 = .ok (.getfield 16, 3) := by decide +kernel
theorem dX7_become_19 : decode cX7_become 19 = .ok (.invokevirtual 23, 3) := by decide +kernel
theorem dX7_become_22 : decode cX7_become 22 = .ok (.return_, 1) := by decide +kernel
theorem dX7_side_0 : decode cX7_side 0 = .ok (.iload_n 1, 1) := by decide +kernel
theorem dX7_side_1 : decode cX7_side 1 = .ok (.ifCond .ne 8, 3) := by decide +kernel
theorem dX7_side_4 : decode cX7_side 4 = .ok (.aload_n 0, 1) := by decide +kernel
theorem dX7_side_5 : decode cX7_side 5 = .ok (.getfield 10, 3) := by decide +kernel
theorem dX7_side_8 : decode cX7_side 8 = .ok (.areturn, 1) := by decide +kernel
theorem dX7_side_9 : decode cX7_side 9 = .ok (.iload_n 1, 1) := by decide +kernel
theorem dX7_side_10 : decode cX7_side 10 = .ok (.iconst 1, 1) := by decide +kernel
theorem dX7_side_11 : decode cX7_side 11 = .ok (.if_icmp .ne 10, 3) := by decide +kernel
theorem dX7_side_14 : decode cX7_side 14 = .ok (.aload_n 0, 1) := by decide +kernel
theorem dX7_side_15 : decode cX7_side 15 = .ok (.getfield 16, 3) := by decide +kernel
theorem dX7_side_18 : decode cX7_side 18 = .ok (.goto 4, 3) := by decide +kernel
theorem dX7_side_21 : decode cX7_side 21 = .ok (.aconst_null, 1) := by decide +kernel
theorem dX7_side_22 : decode cX7_side 22 = .ok (.areturn, 1) := by decide +kernel
theorem dX7_unfoldInto_0 : decode cX7_unfoldInto 0 = .ok (.aload_n 1, 1) := by decide +kernel
theorem dX7_unfoldInto_1 : decode cX7_unfoldInto 1 = .ok (.iconst 0, 1) := by decide +kernel
theorem dX7_unfoldInto_2 : decode cX7_unfoldInto 2 = .ok (.invokevirtual 19, 3) := by decide +kernel
theorem dX7_unfoldInto_5 : decode cX7_unfoldInto 5 = .ok (.aload_n 3, 1) := by decide +kernel
theorem dX7_unfoldInto_6 : decode cX7_unfoldInto 6 = .ok (.aload_n 0, 1) := by decide +kernel
theorem dX7_unfoldInto_7 : decode cX7_unfoldInto 7 = .ok (.getfield 16, 3) := by decide +kernel
theorem dX7_unfoldInto_10 : decode cX7_unfoldInto 10 = .ok (.iconst 0, 1) := by decide +kernel
theorem dX7_unfoldInto_11 : decode cX7_unfoldInto 11 = .ok (.invokevirtual 27, 3) := by decide +kernel
theorem dX7_unfoldInto_14 : decode cX7_unfoldInto 14 = .ok (.invokevirtual 31, 3) := by decide +kernel
theorem dX7_unfoldInto_17 : decode cX7_unfoldInto 17 = .ok (.istore 4, 2) := by decide +kernel
theorem dX7_unfoldInto_19 : decode cX7_unfoldInto 19 = .ok (.iconst 0, 1) := by decide +kernel
theorem dX7_unfoldInto_20 : decode cX7_unfoldInto 20 = .ok (.istore 5, 2) := by decide +kernel
theorem dX7_unfoldInto_22 : decode cX7_unfoldInto 22 = .ok (.iload 5, 2) := by decide +kernel
theorem dX7_unfoldInto_24 : decode cX7_unfoldInto 24 = .ok (.iload_n 2, 1) := by decide +kernel
theorem dX7_unfoldInto_25 : decode cX7_unfoldInto 25 = .ok (.if_icmp .gt 81, 3) := by decide +kernel
theorem dX7_unfoldInto_28 : decode cX7_unfoldInto 28 = .ok (.aload_n 0, 1) := by decide +kernel
theorem dX7_unfoldInto_29 : decode cX7_unfoldInto 29 = .ok (.getfield 10, 3) := by decide +kernel
theorem dX7_unfoldInto_32 : decode cX7_unfoldInto 32 = .ok (.iload 5, 2) := by decide +kernel
theorem dX7_unfoldInto_34 : decode cX7_unfoldInto 34 = .ok (.invokevirtual 27, 3) := by decide +kernel
theorem dX7_unfoldInto_37 : decode cX7_unfoldInto 37 = .ok (.i2l, 1) := by decide +kernel
theorem dX7_unfoldInto_38 : decode cX7_unfoldInto 38 = .ok (.lstore 6, 2) := by decide +kernel
theorem dX7_unfoldInto_40 : decode cX7_unfoldInto 40 = .ok (.iconst 1, 1) := by decide +kernel
theorem dX7_unfoldInto_41 : decode cX7_unfoldInto 41 = .ok (.istore 8, 2) := by decide +kernel
theorem dX7_unfoldInto_43 : decode cX7_unfoldInto 43 = .ok (.iload 8, 2) := by decide +kernel
theorem dX7_unfoldInto_45 : decode cX7_unfoldInto 45 = .ok (.iload 5, 2) := by decide +kernel
theorem dX7_unfoldInto_47 : decode cX7_unfoldInto 47 = .ok (.if_icmp .gt 35, 3) := by decide +kernel
theorem dX7_unfoldInto_50 : decode cX7_unfoldInto 50 = .ok (.lload 6, 2) := by decide +kernel
theorem dX7_unfoldInto_52 : decode cX7_unfoldInto 52 = .ok (.aload_n 0, 1) := by decide +kernel
theorem dX7_unfoldInto_53 : decode cX7_unfoldInto 53 = .ok (.getfield 16, 3) := by decide +kernel
theorem dX7_unfoldInto_56 : decode cX7_unfoldInto 56 = .ok (.iload 8, 2) := by decide +kernel
theorem dX7_unfoldInto_58 : decode cX7_unfoldInto 58 = .ok (.invokevirtual 27, 3) := by decide +kernel
theorem dX7_unfoldInto_61 : decode cX7_unfoldInto 61 = .ok (.i2l, 1) := by decide +kernel
theorem dX7_unfoldInto_62 : decode cX7_unfoldInto 62 = .ok (.aload_n 1, 1) := by decide +kernel
theorem dX7_unfoldInto_63 : decode cX7_unfoldInto 63 = .ok (.iload 5, 2) := by decide +kernel
theorem dX7_unfoldInto_65 : decode cX7_unfoldInto 65 = .ok (.iload 8, 2) := by decide +kernel
theorem dX7_unfoldInto_67 : decode cX7_unfoldInto 67 = .ok (.isub, 1) := by decide +kernel
theorem dX7_unfoldInto_68 : decode cX7_unfoldInto 68 = .ok (.invokevirtual 27, 3) := by decide +kernel
theorem dX7_unfoldInto_71 : decode cX7_unfoldInto 71 = .ok (.i2l, 1) := by decide +kernel
theorem dX7_unfoldInto_72 : decode cX7_unfoldInto 72 = .ok (.lmul, 1) := by decide +kernel
theorem dX7_unfoldInto_73 : decode cX7_unfoldInto 73 = .ok (.lsub, 1) := by decide +kernel
theorem dX7_unfoldInto_74 : decode cX7_unfoldInto 74 = .ok (.lstore 6, 2) := by decide +kernel
theorem dX7_unfoldInto_76 : decode cX7_unfoldInto 76 = .ok (.iinc 8 1, 3) := by decide +kernel
theorem dX7_unfoldInto_79 : decode cX7_unfoldInto 79 = .ok (.goto (-36), 3) := by decide +kernel
theorem dX7_unfoldInto_82 : decode cX7_unfoldInto 82 = .ok (.aload_n 1, 1) := by decide +kernel
theorem dX7_unfoldInto_83 : decode cX7_unfoldInto 83 = .ok (.iload 5, 2) := by decide +kernel
theorem dX7_unfoldInto_85 : decode cX7_unfoldInto 85 = .ok (.aload_n 3, 1) := by decide +kernel
theorem dX7_unfoldInto_86 : decode cX7_unfoldInto 86 = .ok (.aload_n 3, 1) := by decide +kernel
theorem dX7_unfoldInto_87 : decode cX7_unfoldInto 87 = .ok (.lload 6, 2) := by decide +kernel
theorem dX7_unfoldInto_89 : decode cX7_unfoldInto 89 = .ok (.invokevirtual 36, 3) := by decide +kernel
theorem dX7_unfoldInto_92 : decode cX7_unfoldInto 92 = .ok (.iload 4, 2) := by decide +kernel
theorem dX7_unfoldInto_94 : decode cX7_unfoldInto 94 = .ok (.invokevirtual 40, 3) := by decide +kernel
theorem dX7_unfoldInto_97 : decode cX7_unfoldInto 97 = .ok (.invokevirtual 44, 3) := by decide +kernel
theorem dX7_unfoldInto_100 : decode cX7_unfoldInto 100 = .ok (.iinc 5 1, 3) := by decide +kernel
theorem dX7_unfoldInto_103 : decode cX7_unfoldInto 103 = .ok (.goto (-81), 3) := by decide +kernel
theorem dX7_unfoldInto_106 : decode cX7_unfoldInto 106 = .ok (.return_, 1) := by decide +kernel
theorem dX8_init_0 : decode cX8_init 0 = .ok (.aload_n 0, 1) := by decide +kernel
theorem dX8_init_1 : decode cX8_init 1 = .ok (.invokespecial 3, 3) := by decide +kernel
theorem dX8_init_4 : decode cX8_init 4 = .ok (.aload_n 0, 1) := by decide +kernel
theorem dX8_init_5 : decode cX8_init 5 = .ok (.bipush 60, 2) := by decide +kernel
theorem dX8_init_7 : decode cX8_init 7 = .ok (.newarray .long, 2) := by decide +kernel
theorem dX8_init_9 : decode cX8_init 9 = .ok (.putfield 9, 3) := by decide +kernel
theorem dX8_init_12 : decode cX8_init 12 = .ok (.aload_n 0, 1) := by decide +kernel
theorem dX8_init_13 : decode cX8_init 13 = .ok (.iconst 1, 1) := by decide +kernel
theorem dX8_init_14 : decode cX8_init 14 = .ok (.putfield 15, 3) := by decide +kernel
theorem dX8_init_17 : decode cX8_init 17 = .ok (.aload_n 0, 1) := by decide +kernel
theorem dX8_init_18 : decode cX8_init 18 = .ok (.iconst 0, 1) := by decide +kernel
theorem dX8_init_19 : decode cX8_init 19 = .ok (.putfield 19, 3) := by decide +kernel
theorem dX8_init_22 : decode cX8_init 22 = .ok (.aload_n 0, 1) := by decide +kernel
theorem dX8_init_23 : decode cX8_init 23 = .ok (.iconst 0, 1) := by decide +kernel
theorem dX8_init_24 : decode cX8_init 24 = .ok (.putfield 23, 3) := by decide +kernel
theorem dX8_init_27 : decode cX8_init 27 = .ok (.return_, 1) := by decide +kernel
theorem dX8_renew_0 : decode cX8_renew 0 = .ok (.aload_n 0, 1) := by decide +kernel
theorem dX8_renew_1 : decode cX8_renew 1 = .ok (.getfield 9, 3) := by decide +kernel
theorem dX8_renew_4 : decode cX8_renew 4 = .ok (.lconst 0, 1) := by decide +kernel
theorem dX8_renew_5 : decode cX8_renew 5 = .ok (.invokestatic 26, 3) := by decide +kernel
theorem dX8_renew_8 : decode cX8_renew 8 = .ok (.aload_n 0, 1) := by decide +kernel
theorem dX8_renew_9 : decode cX8_renew 9 = .ok (.iconst 0, 1) := by decide +kernel
theorem dX8_renew_10 : decode cX8_renew 10 = .ok (.putfield 15, 3) := by decide +kernel
theorem dX8_renew_13 : decode cX8_renew 13 = .ok (.aload_n 0, 1) := by decide +kernel
theorem dX8_renew_14 : decode cX8_renew 14 = .ok (.iload_n 1, 1) := by decide +kernel
theorem dX8_renew_15 : decode cX8_renew 15 = .ok (.putfield 19, 3) := by decide +kernel
theorem dX8_renew_18 : decode cX8_renew 18 = .ok (.aload_n 0, 1) := by decide +kernel
theorem dX8_renew_19 : decode cX8_renew 19 = .ok (.iload_n 2, 1) := by decide +kernel
theorem dX8_renew_20 : decode cX8_renew 20 = .ok (.putfield 23, 3) := by decide +kernel
theorem dX8_renew_23 : decode cX8_renew 23 = .ok (.return_, 1) := by decide +kernel
theorem dX8_hasPlaces_0 : decode cX8_hasPlaces 0 = .ok (.iload_n 2, 1) := by decide +kernel
theorem dX8_hasPlaces_1 : decode cX8_hasPlaces 1 = .ok (.ifCond .lt 21, 3) := by decide +kernel
theorem dX8_hasPlaces_4 : decode cX8_hasPlaces 4 = .ok (.iload_n 1, 1) := by decide +kernel
theorem dX8_hasPlaces_5 : decode cX8_hasPlaces 5 = .ok (.ifCond .lt 17, 3) := by decide +kernel
theorem dX8_hasPlaces_8 : decode cX8_hasPlaces 8 = .ok (.iload_n 1, 1) := by decide +kernel
theorem dX8_hasPlaces_9 : decode cX8_hasPlaces 9 = .ok (.aload_n 0, 1) := by decide +kernel
theorem dX8_hasPlaces_10 : decode cX8_hasPlaces 10 = .ok (.getfield 23, 3) := by decide +kernel
theorem dX8_hasPlaces_13 : decode cX8_hasPlaces 13 = .ok (.iload_n 2, 1) := by decide +kernel
theorem dX8_hasPlaces_14 : decode cX8_hasPlaces 14 = .ok (.isub, 1) := by decide +kernel
theorem dX8_hasPlaces_15 : decode cX8_hasPlaces 15 = .ok (.if_icmp .gt 7, 3) := by decide +kernel
theorem dX8_hasPlaces_18 : decode cX8_hasPlaces 18 = .ok (.iconst 1, 1) := by decide +kernel
theorem dX8_hasPlaces_19 : decode cX8_hasPlaces 19 = .ok (.goto 4, 3) := by decide +kernel
theorem dX8_hasPlaces_22 : decode cX8_hasPlaces 22 = .ok (.iconst 0, 1) := by decide +kernel
theorem dX8_hasPlaces_23 : decode cX8_hasPlaces 23 = .ok (.ireturn, 1) := by decide +kernel
theorem dX8_read_0 : decode cX8_read 0 = .ok (.iload_n 1, 1) := by decide +kernel
theorem dX8_read_1 : decode cX8_read 1 = .ok (.ifCond .lt 18, 3) := by decide +kernel
theorem dX8_read_4 : decode cX8_read 4 = .ok (.iload_n 1, 1) := by decide +kernel
theorem dX8_read_5 : decode cX8_read 5 = .ok (.bipush 60, 2) := by decide +kernel
theorem dX8_read_7 : decode cX8_read 7 = .ok (.if_icmp .ge 12, 3) := by decide +kernel
theorem dX8_read_10 : decode cX8_read 10 = .ok (.aload_n 0, 1) := by decide +kernel
theorem dX8_read_11 : decode cX8_read 11 = .ok (.getfield 9, 3) := by decide +kernel
theorem dX8_read_14 : decode cX8_read 14 = .ok (.iload_n 1, 1) := by decide +kernel
theorem dX8_read_15 : decode cX8_read 15 = .ok (.laload, 1) := by decide +kernel
theorem dX8_read_16 : decode cX8_read 16 = .ok (.goto 4, 3) := by decide +kernel
theorem dX8_read_19 : decode cX8_read 19 = .ok (.lconst 0, 1) := by decide +kernel
theorem dX8_read_20 : decode cX8_read 20 = .ok (.lreturn, 1) := by decide +kernel
theorem dX8_write_0 : decode cX8_write 0 = .ok (.iload_n 1, 1) := by decide +kernel
theorem dX8_write_1 : decode cX8_write 1 = .ok (.ifCond .lt 20, 3) := by decide +kernel
theorem dX8_write_4 : decode cX8_write 4 = .ok (.iload_n 1, 1) := by decide +kernel
theorem dX8_write_5 : decode cX8_write 5 = .ok (.bipush 60, 2) := by decide +kernel
theorem dX8_write_7 : decode cX8_write 7 = .ok (.if_icmp .ge 14, 3) := by decide +kernel
theorem dX8_write_10 : decode cX8_write 10 = .ok (.aload_n 0, 1) := by decide +kernel
theorem dX8_write_11 : decode cX8_write 11 = .ok (.getfield 9, 3) := by decide +kernel
theorem dX8_write_14 : decode cX8_write 14 = .ok (.iload_n 1, 1) := by decide +kernel
theorem dX8_write_15 : decode cX8_write 15 = .ok (.aload_n 0, 1) := by decide +kernel
theorem dX8_write_16 : decode cX8_write 16 = .ok (.lload_n 2, 1) := by decide +kernel
theorem dX8_write_17 : decode cX8_write 17 = .ok (.invokevirtual 32, 3) := by decide +kernel
theorem dX8_write_20 : decode cX8_write 20 = .ok (.lastore, 1) := by decide +kernel
theorem dX8_write_21 : decode cX8_write 21 = .ok (.return_, 1) := by decide +kernel
theorem dX8_castToLane_0 : decode cX8_castToLane 0 = .ok (.aload_n 0, 1) := by decide +kernel
theorem dX8_castToLane_1 : decode cX8_castToLane 1 = .ok (.getfield 19, 3) := by decide +kernel
theorem dX8_castToLane_4 : decode cX8_castToLane 4 = .ok (.tableswitch 42 0 2 #[28, 33, 38], 28) := by decide +kernel
theorem dX8_castToLane_32 : decode cX8_castToLane 32 = .ok (.lload_n 1, 1) := by decide +kernel
theorem dX8_castToLane_33 : decode cX8_castToLane 33 = .ok (.l2i, 1) := by decide +kernel
theorem dX8_castToLane_34 : decode cX8_castToLane 34 = .ok (.i2b, 1) := by decide +kernel
theorem dX8_castToLane_35 : decode cX8_castToLane 35 = .ok (.i2l, 1) := by decide +kernel
theorem dX8_castToLane_36 : decode cX8_castToLane 36 = .ok (.lreturn, 1) := by decide +kernel
theorem dX8_castToLane_37 : decode cX8_castToLane 37 = .ok (.lload_n 1, 1) := by decide +kernel
theorem dX8_castToLane_38 : decode cX8_castToLane 38 = .ok (.l2i, 1) := by decide +kernel
theorem dX8_castToLane_39 : decode cX8_castToLane 39 = .ok (.i2s, 1) := by decide +kernel
theorem dX8_castToLane_40 : decode cX8_castToLane 40 = .ok (.i2l, 1) := by decide +kernel
theorem dX8_castToLane_41 : decode cX8_castToLane 41 = .ok (.lreturn, 1) := by decide +kernel
theorem dX8_castToLane_42 : decode cX8_castToLane 42 = .ok (.lload_n 1, 1) := by decide +kernel
theorem dX8_castToLane_43 : decode cX8_castToLane 43 = .ok (.l2i, 1) := by decide +kernel
theorem dX8_castToLane_44 : decode cX8_castToLane 44 = .ok (.i2l, 1) := by decide +kernel
theorem dX8_castToLane_45 : decode cX8_castToLane 45 = .ok (.lreturn, 1) := by decide +kernel
theorem dX8_castToLane_46 : decode cX8_castToLane 46 = .ok (.lload_n 1, 1) := by decide +kernel
theorem dX8_castToLane_47 : decode cX8_castToLane 47 = .ok (.lreturn, 1) := by decide +kernel
theorem dX8_mixedInto_0 : decode cX8_mixedInto 0 = .ok (.aload_n 0, 1) := by decide +kernel
theorem dX8_mixedInto_1 : decode cX8_mixedInto 1 = .ok (.getfield 15, 3) := by decide +kernel
theorem dX8_mixedInto_4 : decode cX8_mixedInto 4 = .ok (.ifCond .eq 11, 3) := by decide +kernel
theorem dX8_mixedInto_7 : decode cX8_mixedInto 7 = .ok (.lload_n 1, 1) := by decide +kernel
theorem dX8_mixedInto_8 : decode cX8_mixedInto 8 = .ok (.ldc2_w 36, 3) := by decide +kernel
theorem dX8_mixedInto_11 : decode cX8_mixedInto 11 = .ok (.invokestatic 38, 3) := by decide +kernel
theorem dX8_mixedInto_14 : decode cX8_mixedInto 14 = .ok (.lreturn, 1) := by decide +kernel
theorem dX8_mixedInto_15 : decode cX8_mixedInto 15 = .ok (.lload_n 1, 1) := by decide +kernel
theorem dX8_mixedInto_16 : decode cX8_mixedInto 16 = .ok (.aload_n 0, 1) := by decide +kernel
theorem dX8_mixedInto_17 : decode cX8_mixedInto 17 = .ok (.getfield 23, 3) := by decide +kernel
theorem dX8_mixedInto_20 : decode cX8_mixedInto 20 = .ok (.i2l, 1) := by decide +kernel
theorem dX8_mixedInto_21 : decode cX8_mixedInto 21 = .ok (.invokestatic 38, 3) := by decide +kernel
theorem dX8_mixedInto_24 : decode cX8_mixedInto 24 = .ok (.lstore_n 3, 1) := by decide +kernel
theorem dX8_mixedInto_25 : decode cX8_mixedInto 25 = .ok (.iconst 0, 1) := by decide +kernel
theorem dX8_mixedInto_26 : decode cX8_mixedInto 26 = .ok (.istore 5, 2) := by decide +kernel
theorem dX8_mixedInto_28 : decode cX8_mixedInto 28 = .ok (.iload 5, 2) := by decide +kernel
theorem dX8_mixedInto_30 : decode cX8_mixedInto 30 = .ok (.aload_n 0, 1) := by decide +kernel
theorem dX8_mixedInto_31 : decode cX8_mixedInto 31 = .ok (.getfield 23, 3) := by decide +kernel
theorem dX8_mixedInto_34 : decode cX8_mixedInto 34 = .ok (.if_icmp .ge 28, 3) := by decide +kernel
theorem dX8_mixedInto_37 : decode cX8_mixedInto 37 = .ok (.iload 5, 2) := by decide +kernel
theorem dX8_mixedInto_39 : decode cX8_mixedInto 39 = .ok (.bipush 60, 2) := by decide +kernel
theorem dX8_mixedInto_41 : decode cX8_mixedInto 41 = .ok (.if_icmp .ge 21, 3) := by decide +kernel
theorem dX8_mixedInto_44 : decode cX8_mixedInto 44 = .ok (.lload_n 3, 1) := by decide +kernel
theorem dX8_mixedInto_45 : decode cX8_mixedInto 45 = .ok (.aload_n 0, 1) := by decide +kernel
theorem dX8_mixedInto_46 : decode cX8_mixedInto 46 = .ok (.getfield 9, 3) := by decide +kernel
theorem dX8_mixedInto_49 : decode cX8_mixedInto 49 = .ok (.iload 5, 2) := by decide +kernel
theorem dX8_mixedInto_51 : decode cX8_mixedInto 51 = .ok (.laload, 1) := by decide +kernel
theorem dX8_mixedInto_52 : decode cX8_mixedInto 52 = .ok (.invokestatic 38, 3) := by decide +kernel
theorem dX8_mixedInto_55 : decode cX8_mixedInto 55 = .ok (.lstore_n 3, 1) := by decide +kernel
theorem dX8_mixedInto_56 : decode cX8_mixedInto 56 = .ok (.iinc 5 1, 3) := by decide +kernel
theorem dX8_mixedInto_59 : decode cX8_mixedInto 59 = .ok (.goto (-31), 3) := by decide +kernel
theorem dX8_mixedInto_62 : decode cX8_mixedInto 62 = .ok (.lload_n 3, 1) := by decide +kernel
theorem dX8_mixedInto_63 : decode cX8_mixedInto 63 = .ok (.lreturn, 1) := by decide +kernel
theorem dX9_init_0 : decode cX9_init 0 = .ok (.aload_n 0, 1) := by decide +kernel
theorem dX9_init_1 : decode cX9_init 1 = .ok (.invokespecial 3, 3) := by decide +kernel
theorem dX9_init_4 : decode cX9_init 4 = .ok (.aload_n 0, 1) := by decide +kernel
theorem dX9_init_5 : decode cX9_init 5 = .ok (.new 9, 3) := by decide +kernel
theorem dX9_init_8 : decode cX9_init 8 = .ok (.dup, 1) := by decide +kernel
theorem dX9_init_9 : decode cX9_init 9 = .ok (.invokespecial 11, 3) := by decide +kernel
theorem dX9_init_12 : decode cX9_init 12 = .ok (.putfield 12, 3) := by decide +kernel
theorem dX9_init_15 : decode cX9_init 15 = .ok (.aload_n 0, 1) := by decide +kernel
theorem dX9_init_16 : decode cX9_init 16 = .ok (.iconst 4, 1) := by decide +kernel
theorem dX9_init_17 : decode cX9_init 17 = .ok (.anewarray 16, 3) := by decide +kernel
theorem dX9_init_20 : decode cX9_init 20 = .ok (.putfield 18, 3) := by decide +kernel
theorem dX9_init_23 : decode cX9_init 23 = .ok (.aload_n 0, 1) := by decide +kernel
theorem dX9_init_24 : decode cX9_init 24 = .ok (.bipush 10, 2) := by decide +kernel
theorem dX9_init_26 : decode cX9_init 26 = .ok (.anewarray 22, 3) := by decide +kernel
theorem dX9_init_29 : decode cX9_init 29 = .ok (.putfield 24, 3) := by decide +kernel
theorem dX9_init_32 : decode cX9_init 32 = .ok (.aload_n 0, 1) := by decide +kernel
theorem dX9_init_33 : decode cX9_init 33 = .ok (.iconst 0, 1) := by decide +kernel
theorem dX9_init_34 : decode cX9_init 34 = .ok (.putfield 28, 3) := by decide +kernel
theorem dX9_init_37 : decode cX9_init 37 = .ok (.aload_n 0, 1) := by decide +kernel
theorem dX9_init_38 : decode cX9_init 38 = .ok (.new 32, 3) := by decide +kernel
theorem dX9_init_41 : decode cX9_init 41 = .ok (.dup, 1) := by decide +kernel
theorem dX9_init_42 : decode cX9_init 42 = .ok (.invokespecial 34, 3) := by decide +kernel
theorem dX9_init_45 : decode cX9_init 45 = .ok (.putfield 35, 3) := by decide +kernel
theorem dX9_init_48 : decode cX9_init 48 = .ok (.aload_n 0, 1) := by decide +kernel
theorem dX9_init_49 : decode cX9_init 49 = .ok (.new 39, 3) := by decide +kernel
theorem dX9_init_52 : decode cX9_init 52 = .ok (.dup, 1) := by decide +kernel
theorem dX9_init_53 : decode cX9_init 53 = .ok (.invokespecial 41, 3) := by decide +kernel
theorem dX9_init_56 : decode cX9_init 56 = .ok (.putfield 42, 3) := by decide +kernel
theorem dX9_init_59 : decode cX9_init 59 = .ok (.aload_n 0, 1) := by decide +kernel
theorem dX9_init_60 : decode cX9_init 60 = .ok (.new 39, 3) := by decide +kernel
theorem dX9_init_63 : decode cX9_init 63 = .ok (.dup, 1) := by decide +kernel
theorem dX9_init_64 : decode cX9_init 64 = .ok (.invokespecial 41, 3) := by decide +kernel
theorem dX9_init_67 : decode cX9_init 67 = .ok (.putfield 46, 3) := by decide +kernel
theorem dX9_init_70 : decode cX9_init 70 = .ok (.aload_n 0, 1) := by decide +kernel
theorem dX9_init_71 : decode cX9_init 71 = .ok (.new 49, 3) := by decide +kernel
theorem dX9_init_74 : decode cX9_init 74 = .ok (.dup, 1) := by decide +kernel
theorem dX9_init_75 : decode cX9_init 75 = .ok (.invokespecial 51, 3) := by decide +kernel
theorem dX9_init_78 : decode cX9_init 78 = .ok (.putfield 52, 3) := by decide +kernel
theorem dX9_init_81 : decode cX9_init 81 = .ok (.aload_n 0, 1) := by decide +kernel
theorem dX9_init_82 : decode cX9_init 82 = .ok (.new 56, 3) := by decide +kernel
theorem dX9_init_85 : decode cX9_init 85 = .ok (.dup, 1) := by decide +kernel
theorem dX9_init_86 : decode cX9_init 86 = .ok (.invokespecial 58, 3) := by decide +kernel
theorem dX9_init_89 : decode cX9_init 89 = .ok (.putfield 59, 3) := by decide +kernel
theorem dX9_init_92 : decode cX9_init 92 = .ok (.aload_n 0, 1) := by decide +kernel
theorem dX9_init_93 : decode cX9_init 93 = .ok (.new 63, 3) := by decide +kernel
theorem dX9_init_96 : decode cX9_init 96 = .ok (.dup, 1) := by decide +kernel
theorem dX9_init_97 : decode cX9_init 97 = .ok (.invokespecial 65, 3) := by decide +kernel
theorem dX9_init_100 : decode cX9_init 100 = .ok (.putfield 66, 3) := by decide +kernel
theorem dX9_init_103 : decode cX9_init 103 = .ok (.aload_n 0, 1) := by decide +kernel
theorem dX9_init_104 : decode cX9_init 104 = .ok (.new 70, 3) := by decide +kernel
theorem dX9_init_107 : decode cX9_init 107 = .ok (.dup, 1) := by decide +kernel
theorem dX9_init_108 : decode cX9_init 108 = .ok (.invokespecial 72, 3) := by decide +kernel
theorem dX9_init_111 : decode cX9_init 111 = .ok (.putfield 73, 3) := by decide +kernel
theorem dX9_init_114 : decode cX9_init 114 = .ok (.aload_n 0, 1) := by decide +kernel
theorem dX9_init_115 : decode cX9_init 115 = .ok (.bipush 6, 2) := by decide +kernel
theorem dX9_init_117 : decode cX9_init 117 = .ok (.newarray .int, 2) := by decide +kernel
theorem dX9_init_119 : decode cX9_init 119 = .ok (.putfield 77, 3) := by decide +kernel
theorem dX9_init_122 : decode cX9_init 122 = .ok (.aload_n 0, 1) := by decide +kernel
theorem dX9_init_123 : decode cX9_init 123 = .ok (.iconst 0, 1) := by decide +kernel
theorem dX9_init_124 : decode cX9_init 124 = .ok (.putfield 81, 3) := by decide +kernel
theorem dX9_init_127 : decode cX9_init 127 = .ok (.iconst 0, 1) := by decide +kernel
theorem dX9_init_128 : decode cX9_init 128 = .ok (.istore_n 1, 1) := by decide +kernel
theorem dX9_init_129 : decode cX9_init 129 = .ok (.iload_n 1, 1) := by decide +kernel
theorem dX9_init_130 : decode cX9_init 130 = .ok (.iconst 4, 1) := by decide +kernel
theorem dX9_init_131 : decode cX9_init 131 = .ok (.if_icmp .ge 22, 3) := by decide +kernel
theorem dX9_init_134 : decode cX9_init 134 = .ok (.aload_n 0, 1) := by decide +kernel
theorem dX9_init_135 : decode cX9_init 135 = .ok (.getfield 18, 3) := by decide +kernel
theorem dX9_init_138 : decode cX9_init 138 = .ok (.iload_n 1, 1) := by decide +kernel
theorem dX9_init_139 : decode cX9_init 139 = .ok (.new 16, 3) := by decide +kernel
theorem dX9_init_142 : decode cX9_init 142 = .ok (.dup, 1) := by decide +kernel
theorem dX9_init_143 : decode cX9_init 143 = .ok (.invokespecial 84, 3) := by decide +kernel
theorem dX9_init_146 : decode cX9_init 146 = .ok (.aastore, 1) := by decide +kernel
theorem dX9_init_147 : decode cX9_init 147 = .ok (.iinc 1 1, 3) := by decide +kernel
theorem dX9_init_150 : decode cX9_init 150 = .ok (.goto (-21), 3) := by decide +kernel
theorem dX9_init_153 : decode cX9_init 153 = .ok (.iconst 0, 1) := by decide +kernel
theorem dX9_init_154 : decode cX9_init 154 = .ok (.istore_n 1, 1) := by decide +kernel
theorem dX9_init_155 : decode cX9_init 155 = .ok (.iload_n 1, 1) := by decide +kernel
theorem dX9_init_156 : decode cX9_init 156 = .ok (.bipush 10, 2) := by decide +kernel
theorem dX9_init_158 : decode cX9_init 158 = .ok (.if_icmp .ge 22, 3) := by decide +kernel
theorem dX9_init_161 : decode cX9_init 161 = .ok (.aload_n 0, 1) := by decide +kernel
theorem dX9_init_162 : decode cX9_init 162 = .ok (.getfield 24, 3) := by decide +kernel
theorem dX9_init_165 : decode cX9_init 165 = .ok (.iload_n 1, 1) := by decide +kernel
theorem dX9_init_166 : decode cX9_init 166 = .ok (.new 22, 3) := by decide +kernel
theorem dX9_init_169 : decode cX9_init 169 = .ok (.dup, 1) := by decide +kernel
theorem dX9_init_170 : decode cX9_init 170 = .ok (.invokespecial 85, 3) := by decide +kernel
theorem dX9_init_173 : decode cX9_init 173 = .ok (.aastore, 1) := by decide +kernel
theorem dX9_init_174 : decode cX9_init 174 = .ok (.iinc 1 1, 3) := by decide +kernel
theorem dX9_init_177 : decode cX9_init 177 = .ok (.goto (-22), 3) := by decide +kernel
theorem dX9_init_180 : decode cX9_init 180 = .ok (.return_, 1) := by decide +kernel
theorem dX9_prime_0 : decode cX9_prime 0 = .ok (.iload_n 1, 1) := by decide +kernel
theorem dX9_prime_1 : decode cX9_prime 1 = .ok (.invokestatic 86, 3) := by decide +kernel
theorem dX9_prime_4 : decode cX9_prime 4 = .ok (.ifCond .ne 6, 3) := by decide +kernel
theorem dX9_prime_7 : decode cX9_prime 7 = .ok (.bipush (-102), 2) := by decide +kernel
theorem dX9_prime_9 : decode cX9_prime 9 = .ok (.ireturn, 1) := by decide +kernel
theorem dX9_prime_10 : decode cX9_prime 10 = .ok (.aload_n 0, 1) := by decide +kernel
theorem dX9_prime_11 : decode cX9_prime 11 = .ok (.getfield 28, 3) := by decide +kernel
theorem dX9_prime_14 : decode cX9_prime 14 = .ok (.ifCond .gt 13, 3) := by decide +kernel
theorem dX9_prime_17 : decode cX9_prime 17 = .ok (.aload_n 0, 1) := by decide +kernel
theorem dX9_prime_18 : decode cX9_prime 18 = .ok (.getfield 35, 3) := by decide +kernel
theorem dX9_prime_21 : decode cX9_prime 21 = .ok (.getfield 90, 3) := by decide +kernel
theorem dX9_prime_24 : decode cX9_prime 24 = .ok (.ifCond .le 6, 3) := by decide +kernel
theorem dX9_prime_27 : decode cX9_prime 27 = .ok (.bipush (-103), 2) := by decide +kernel
theorem dX9_prime_29 : decode cX9_prime 29 = .ok (.ireturn, 1) := by decide +kernel
theorem dX9_prime_30 : decode cX9_prime 30 = .ok (.aload_n 0, 1) := by decide +kernel
theorem dX9_prime_31 : decode cX9_prime 31 = .ok (.getfield 12, 3) := by decide +kernel
theorem dX9_prime_34 : decode cX9_prime 34 = .ok (.getfield 93, 3) := by decide +kernel
theorem dX9_prime_37 : decode cX9_prime 37 = .ok (.istore_n 2, 1) := by decide +kernel
theorem dX9_prime_38 : decode cX9_prime 38 = .ok (.aload_n 0, 1) := by decide +kernel
theorem dX9_prime_39 : decode cX9_prime 39 = .ok (.getfield 12, 3) := by decide +kernel
theorem dX9_prime_42 : decode cX9_prime 42 = .ok (.iload_n 1, 1) := by decide +kernel
theorem dX9_prime_43 : decode cX9_prime 43 = .ok (.putfield 93, 3) := by decide +kernel
theorem dX9_prime_46 : decode cX9_prime 46 = .ok (.aload_n 0, 1) := by decide +kernel
theorem dX9_prime_47 : decode cX9_prime 47 = .ok (.getfield 42, 3) := by decide +kernel
theorem dX9_prime_50 : decode cX9_prime 50 = .ok (.invokevirtual 96, 3) := by decide +kernel
theorem dX9_prime_53 : decode cX9_prime 53 = .ok (.iload_n 2, 1) := by decide +kernel
theorem dX9_prime_54 : decode cX9_prime 54 = .ok (.ireturn, 1) := by decide +kernel
theorem dX9_sheet_0 : decode cX9_sheet 0 = .ok (.aload_n 0, 1) := by decide +kernel
theorem dX9_sheet_1 : decode cX9_sheet 1 = .ok (.iload_n 1, 1) := by decide +kernel
theorem dX9_sheet_2 : decode cX9_sheet 2 = .ok (.invokevirtual 99, 3) := by decide +kernel
theorem dX9_sheet_5 : decode cX9_sheet 5 = .ok (.astore 4, 2) := by decide +kernel
theorem dX9_sheet_7 : decode cX9_sheet 7 = .ok (.aload 4, 2) := by decide +kernel
theorem dX9_sheet_9 : decode cX9_sheet 9 = .ok (.ifnonnull 6, 3) := by decide +kernel
theorem dX9_sheet_12 : decode cX9_sheet 12 = .ok (.bipush (-101), 2) := by decide +kernel
theorem dX9_sheet_14 : decode cX9_sheet 14 = .ok (.ireturn, 1) := by decide +kernel
theorem dX9_sheet_15 : decode cX9_sheet 15 = .ok (.iload_n 2, 1) := by decide +kernel
theorem dX9_sheet_16 : decode cX9_sheet 16 = .ok (.invokestatic 103, 3) := by decide +kernel
theorem dX9_sheet_19 : decode cX9_sheet 19 = .ok (.ifCond .eq 9, 3) := by decide +kernel
theorem dX9_sheet_22 : decode cX9_sheet 22 = .ok (.iload_n 3, 1) := by decide +kernel
theorem dX9_sheet_23 : decode cX9_sheet 23 = .ok (.bipush 60, 2) := by decide +kernel
theorem dX9_sheet_25 : decode cX9_sheet 25 = .ok (.if_icmp .le 6, 3) := by decide +kernel
theorem dX9_sheet_28 : decode cX9_sheet 28 = .ok (.bipush (-102), 2) := by decide +kernel
theorem dX9_sheet_30 : decode cX9_sheet 30 = .ok (.ireturn, 1) := by decide +kernel
theorem dX9_sheet_31 : decode cX9_sheet 31 = .ok (.iload_n 3, 1) := by decide +kernel
theorem dX9_sheet_32 : decode cX9_sheet 32 = .ok (.ifCond .ge 9, 3) := by decide +kernel
theorem dX9_sheet_35 : decode cX9_sheet 35 = .ok (.aload_n 0, 1) := by decide +kernel
theorem dX9_sheet_36 : decode cX9_sheet 36 = .ok (.iconst 3, 1) := by decide +kernel
theorem dX9_sheet_37 : decode cX9_sheet 37 = .ok (.invokevirtual 106, 3) := by decide +kernel
theorem dX9_sheet_40 : decode cX9_sheet 40 = .ok (.ireturn, 1) := by decide +kernel
theorem dX9_sheet_41 : decode cX9_sheet 41 = .ok (.aload 4, 2) := by decide +kernel
theorem dX9_sheet_43 : decode cX9_sheet 43 = .ok (.iload_n 2, 1) := by decide +kernel
theorem dX9_sheet_44 : decode cX9_sheet 44 = .ok (.iload_n 3, 1) := by decide +kernel
theorem dX9_sheet_45 : decode cX9_sheet 45 = .ok (.invokevirtual 110, 3) := by decide +kernel
theorem dX9_sheet_48 : decode cX9_sheet 48 = .ok (.iload_n 3, 1) := by decide +kernel
theorem dX9_sheet_49 : decode cX9_sheet 49 = .ok (.ireturn, 1) := by decide +kernel
theorem dX9_put_0 : decode cX9_put 0 = .ok (.aload_n 0, 1) := by decide +kernel
theorem dX9_put_1 : decode cX9_put 1 = .ok (.iload_n 1, 1) := by decide +kernel
theorem dX9_put_2 : decode cX9_put 2 = .ok (.invokevirtual 99, 3) := by decide +kernel
theorem dX9_put_5 : decode cX9_put 5 = .ok (.astore 6, 2) := by decide +kernel
theorem dX9_put_7 : decode cX9_put 7 = .ok (.aload 6, 2) := by decide +kernel
theorem dX9_put_9 : decode cX9_put 9 = .ok (.ifnonnull 6, 3) := by decide +kernel
theorem dX9_put_12 : decode cX9_put 12 = .ok (.bipush (-101), 2) := by decide +kernel
theorem dX9_put_14 : decode cX9_put 14 = .ok (.ireturn, 1) := by decide +kernel
theorem dX9_put_15 : decode cX9_put 15 = .ok (.iload_n 2, 1) := by decide +kernel
theorem dX9_put_16 : decode cX9_put 16 = .ok (.invokestatic 103, 3) := by decide +kernel
theorem dX9_put_19 : decode cX9_put 19 = .ok (.ifCond .ne 6, 3) := by decide +kernel
theorem dX9_put_22 : decode cX9_put 22 = .ok (.bipush (-102), 2) := by decide +kernel
theorem dX9_put_24 : decode cX9_put 24 = .ok (.ireturn, 1) := by decide +kernel
theorem dX9_put_25 : decode cX9_put 25 = .ok (.aload 6, 2) := by decide +kernel
theorem dX9_put_27 : decode cX9_put 27 = .ok (.getfield 114, 3) := by decide +kernel
theorem dX9_put_30 : decode cX9_put 30 = .ok (.ifCond .eq 9, 3) := by decide +kernel
theorem dX9_put_33 : decode cX9_put 33 = .ok (.aload_n 0, 1) := by decide +kernel
theorem dX9_put_34 : decode cX9_put 34 = .ok (.iconst 1, 1) := by decide +kernel
theorem dX9_put_35 : decode cX9_put 35 = .ok (.invokevirtual 106, 3) := by decide +kernel
theorem dX9_put_38 : decode cX9_put 38 = .ok (.ireturn, 1) := by decide +kernel
theorem dX9_put_39 : decode cX9_put 39 = .ok (.aload 6, 2) := by decide +kernel
theorem dX9_put_41 : decode cX9_put 41 = .ok (.getfield 118, 3) := by decide +kernel
theorem dX9_put_44 : decode cX9_put 44 = .ok (.iload_n 2, 1) := by decide +kernel
theorem dX9_put_45 : decode cX9_put 45 = .ok (.if_icmp .eq 9, 3) := by decide +kernel
theorem dX9_put_48 : decode cX9_put 48 = .ok (.aload_n 0, 1) := by decide +kernel
theorem dX9_put_49 : decode cX9_put 49 = .ok (.iconst 4, 1) := by decide +kernel
theorem dX9_put_50 : decode cX9_put 50 = .ok (.invokevirtual 106, 3) := by decide +kernel
theorem dX9_put_53 : decode cX9_put 53 = .ok (.ireturn, 1) := by decide +kernel
theorem dX9_put_54 : decode cX9_put 54 = .ok (.aload 6, 2) := by decide +kernel
theorem dX9_put_56 : decode cX9_put 56 = .ok (.iload_n 3, 1) := by decide +kernel
theorem dX9_put_57 : decode cX9_put 57 = .ok (.iconst 1, 1) := by decide +kernel
theorem dX9_put_58 : decode cX9_put 58 = .ok (.invokevirtual 121, 3) := by decide +kernel
theorem dX9_put_61 : decode cX9_put 61 = .ok (.ifCond .ne 9, 3) := by decide +kernel
theorem dX9_put_64 : decode cX9_put 64 = .ok (.aload_n 0, 1) := by decide +kernel
theorem dX9_put_65 : decode cX9_put 65 = .ok (.iconst 2, 1) := by decide +kernel
theorem dX9_put_66 : decode cX9_put 66 = .ok (.invokevirtual 106, 3) := by decide +kernel
theorem dX9_put_69 : decode cX9_put 69 = .ok (.ireturn, 1) := by decide +kernel
theorem dX9_put_70 : decode cX9_put 70 = .ok (.aload 6, 2) := by decide +kernel
theorem dX9_put_72 : decode cX9_put 72 = .ok (.iload_n 3, 1) := by decide +kernel
theorem dX9_put_73 : decode cX9_put 73 = .ok (.lload 4, 2) := by decide +kernel
theorem dX9_put_75 : decode cX9_put 75 = .ok (.invokevirtual 125, 3) := by decide +kernel
theorem dX9_put_78 : decode cX9_put 78 = .ok (.iconst 1, 1) := by decide +kernel
theorem dX9_put_79 : decode cX9_put 79 = .ok (.ireturn, 1) := by decide +kernel
theorem dX9_copy_0 : decode cX9_copy 0 = .ok (.aload_n 0, 1) := by decide +kernel
theorem dX9_copy_1 : decode cX9_copy 1 = .ok (.iload_n 1, 1) := by decide +kernel
theorem dX9_copy_2 : decode cX9_copy 2 = .ok (.invokevirtual 99, 3) := by decide +kernel
theorem dX9_copy_5 : decode cX9_copy 5 = .ok (.astore 6, 2) := by decide +kernel
theorem dX9_copy_7 : decode cX9_copy 7 = .ok (.aload_n 0, 1) := by decide +kernel
theorem dX9_copy_8 : decode cX9_copy 8 = .ok (.iload_n 3, 1) := by decide +kernel
theorem dX9_copy_9 : decode cX9_copy 9 = .ok (.invokevirtual 99, 3) := by decide +kernel
theorem dX9_copy_12 : decode cX9_copy 12 = .ok (.astore 7, 2) := by decide +kernel
theorem dX9_copy_14 : decode cX9_copy 14 = .ok (.aload 6, 2) := by decide +kernel
theorem dX9_copy_16 : decode cX9_copy 16 = .ok (.ifnull 8, 3) := by decide +kernel
theorem dX9_copy_19 : decode cX9_copy 19 = .ok (.aload 7, 2) := by decide +kernel
theorem dX9_copy_21 : decode cX9_copy 21 = .ok (.ifnonnull 6, 3) := by decide +kernel
theorem dX9_copy_24 : decode cX9_copy 24 = .ok (.bipush (-101), 2) := by decide +kernel
theorem dX9_copy_26 : decode cX9_copy 26 = .ok (.ireturn, 1) := by decide +kernel
theorem dX9_copy_27 : decode cX9_copy 27 = .ok (.aload 6, 2) := by decide +kernel
theorem dX9_copy_29 : decode cX9_copy 29 = .ok (.getfield 114, 3) := by decide +kernel
theorem dX9_copy_32 : decode cX9_copy 32 = .ok (.ifCond .ne 11, 3) := by decide +kernel
theorem dX9_copy_35 : decode cX9_copy 35 = .ok (.aload 7, 2) := by decide +kernel
theorem dX9_copy_37 : decode cX9_copy 37 = .ok (.getfield 114, 3) := by decide +kernel
theorem dX9_copy_40 : decode cX9_copy 40 = .ok (.ifCond .eq 9, 3) := by decide +kernel
theorem dX9_copy_43 : decode cX9_copy 43 = .ok (.aload_n 0, 1) := by decide +kernel
theorem dX9_copy_44 : decode cX9_copy 44 = .ok (.iconst 1, 1) := by decide +kernel
theorem dX9_copy_45 : decode cX9_copy 45 = .ok (.invokevirtual 106, 3) := by decide +kernel
theorem dX9_copy_48 : decode cX9_copy 48 = .ok (.ireturn, 1) := by decide +kernel
theorem dX9_copy_49 : decode cX9_copy 49 = .ok (.aload 6, 2) := by decide +kernel
theorem dX9_copy_51 : decode cX9_copy 51 = .ok (.getfield 118, 3) := by decide +kernel
theorem dX9_copy_54 : decode cX9_copy 54 = .ok (.aload 7, 2) := by decide +kernel
theorem dX9_copy_56 : decode cX9_copy 56 = .ok (.getfield 118, 3) := by decide +kernel
theorem dX9_copy_59 : decode cX9_copy 59 = .ok (.if_icmp .eq 9, 3) := by decide +kernel
theorem dX9_copy_62 : decode cX9_copy 62 = .ok (.aload_n 0, 1) := by decide +kernel
theorem dX9_copy_63 : decode cX9_copy 63 = .ok (.iconst 4, 1) := by decide +kernel
theorem dX9_copy_64 : decode cX9_copy 64 = .ok (.invokevirtual 106, 3) := by decide +kernel
theorem dX9_copy_67 : decode cX9_copy 67 = .ok (.ireturn, 1) := by decide +kernel
theorem dX9_copy_68 : decode cX9_copy 68 = .ok (.aload 6, 2) := by decide +kernel
theorem dX9_copy_70 : decode cX9_copy 70 = .ok (.iload_n 2, 1) := by decide +kernel
theorem dX9_copy_71 : decode cX9_copy 71 = .ok (.iload 5, 2) := by decide +kernel
theorem dX9_copy_73 : decode cX9_copy 73 = .ok (.invokevirtual 121, 3) := by decide +kernel
theorem dX9_copy_76 : decode cX9_copy 76 = .ok (.ifCond .eq 15, 3) := by decide +kernel
theorem dX9_copy_79 : decode cX9_copy 79 = .ok (.aload 7, 2) := by decide +kernel
theorem dX9_copy_81 : decode cX9_copy 81 = .ok (.iload 4, 2) := by decide +kernel
theorem dX9_copy_83 : decode cX9_copy 83 = .ok (.iload 5, 2) := by decide +kernel
theorem dX9_copy_85 : decode cX9_copy 85 = .ok (.invokevirtual 121, 3) := by decide +kernel
theorem dX9_copy_88 : decode cX9_copy 88 = .ok (.ifCond .ne 9, 3) := by decide +kernel
theorem dX9_copy_91 : decode cX9_copy 91 = .ok (.aload_n 0, 1) := by decide +kernel
theorem dX9_copy_92 : decode cX9_copy 92 = .ok (.iconst 2, 1) := by decide +kernel
theorem dX9_copy_93 : decode cX9_copy 93 = .ok (.invokevirtual 106, 3) := by decide +kernel
theorem dX9_copy_96 : decode cX9_copy 96 = .ok (.ireturn, 1) := by decide +kernel
theorem dX9_copy_97 : decode cX9_copy 97 = .ok (.aload 6, 2) := by decide +kernel
theorem dX9_copy_99 : decode cX9_copy 99 = .ok (.getfield 129, 3) := by decide +kernel
theorem dX9_copy_102 : decode cX9_copy 102 = .ok (.iload_n 2, 1) := by decide +kernel
theorem dX9_copy_103 : decode cX9_copy 103 = .ok (.aload 7, 2) := by decide +kernel
theorem dX9_copy_105 : decode cX9_copy 105 = .ok (.getfield 129, 3) := by decide +kernel
theorem dX9_copy_108 : decode cX9_copy 108 = .ok (.iload 4, 2) := by decide +kernel
theorem dX9_copy_110 : decode cX9_copy 110 = .ok (.iload 5, 2) := by decide +kernel
theorem dX9_copy_112 : decode cX9_copy 112 = .ok (.invokestatic 133, 3) := by decide +kernel
theorem dX9_copy_115 : decode cX9_copy 115 = .ok (.iconst 1, 1) := by decide +kernel
theorem dX9_copy_116 : decode cX9_copy 116 = .ok (.ireturn, 1) := by decide +kernel
theorem dX9_lose_0 : decode cX9_lose 0 = .ok (.aload_n 0, 1) := by decide +kernel
theorem dX9_lose_1 : decode cX9_lose 1 = .ok (.iload_n 1, 1) := by decide +kernel
theorem dX9_lose_2 : decode cX9_lose 2 = .ok (.invokevirtual 99, 3) := by decide +kernel
theorem dX9_lose_5 : decode cX9_lose 5 = .ok (.astore_n 2, 1) := by decide +kernel
theorem dX9_lose_6 : decode cX9_lose 6 = .ok (.aload_n 2, 1) := by decide +kernel
theorem dX9_lose_7 : decode cX9_lose 7 = .ok (.ifnonnull 6, 3) := by decide +kernel
theorem dX9_lose_10 : decode cX9_lose 10 = .ok (.bipush (-101), 2) := by decide +kernel
theorem dX9_lose_12 : decode cX9_lose 12 = .ok (.ireturn, 1) := by decide +kernel
theorem dX9_lose_13 : decode cX9_lose 13 = .ok (.aload_n 2, 1) := by decide +kernel
theorem dX9_lose_14 : decode cX9_lose 14 = .ok (.getfield 114, 3) := by decide +kernel
theorem dX9_lose_17 : decode cX9_lose 17 = .ok (.ifCond .eq 9, 3) := by decide +kernel
theorem dX9_lose_20 : decode cX9_lose 20 = .ok (.aload_n 0, 1) := by decide +kernel
theorem dX9_lose_21 : decode cX9_lose 21 = .ok (.iconst 1, 1) := by decide +kernel
theorem dX9_lose_22 : decode cX9_lose 22 = .ok (.invokevirtual 106, 3) := by decide +kernel
theorem dX9_lose_25 : decode cX9_lose 25 = .ok (.ireturn, 1) := by decide +kernel
theorem dX9_lose_26 : decode cX9_lose 26 = .ok (.aload_n 2, 1) := by decide +kernel
theorem dX9_lose_27 : decode cX9_lose 27 = .ok (.iconst 1, 1) := by decide +kernel
theorem dX9_lose_28 : decode cX9_lose 28 = .ok (.putfield 114, 3) := by decide +kernel
theorem dX9_lose_31 : decode cX9_lose 31 = .ok (.aload_n 2, 1) := by decide +kernel
theorem dX9_lose_32 : decode cX9_lose 32 = .ok (.getfield 139, 3) := by decide +kernel
theorem dX9_lose_35 : decode cX9_lose 35 = .ok (.ireturn, 1) := by decide +kernel
theorem dX9_series_0 : decode cX9_series 0 = .ok (.aload_n 0, 1) := by decide +kernel
theorem dX9_series_1 : decode cX9_series 1 = .ok (.iload_n 1, 1) := by decide +kernel
theorem dX9_series_2 : decode cX9_series 2 = .ok (.invokevirtual 99, 3) := by decide +kernel
theorem dX9_series_5 : decode cX9_series 5 = .ok (.astore 4, 2) := by decide +kernel
theorem dX9_series_7 : decode cX9_series 7 = .ok (.aload 4, 2) := by decide +kernel
theorem dX9_series_9 : decode cX9_series 9 = .ok (.ifnonnull 6, 3) := by decide +kernel
theorem dX9_series_12 : decode cX9_series 12 = .ok (.bipush (-101), 2) := by decide +kernel
theorem dX9_series_14 : decode cX9_series 14 = .ok (.ireturn, 1) := by decide +kernel
theorem dX9_series_15 : decode cX9_series 15 = .ok (.iload_n 3, 1) := by decide +kernel
theorem dX9_series_16 : decode cX9_series 16 = .ok (.invokestatic 142, 3) := by decide +kernel
theorem dX9_series_19 : decode cX9_series 19 = .ok (.ifCond .ne 6, 3) := by decide +kernel
theorem dX9_series_22 : decode cX9_series 22 = .ok (.bipush (-102), 2) := by decide +kernel
theorem dX9_series_24 : decode cX9_series 24 = .ok (.ireturn, 1) := by decide +kernel
theorem dX9_series_25 : decode cX9_series 25 = .ok (.aload 4, 2) := by decide +kernel
theorem dX9_series_27 : decode cX9_series 27 = .ok (.getfield 114, 3) := by decide +kernel
theorem dX9_series_30 : decode cX9_series 30 = .ok (.ifCond .eq 9, 3) := by decide +kernel
theorem dX9_series_33 : decode cX9_series 33 = .ok (.aload_n 0, 1) := by decide +kernel
theorem dX9_series_34 : decode cX9_series 34 = .ok (.iconst 1, 1) := by decide +kernel
theorem dX9_series_35 : decode cX9_series 35 = .ok (.invokevirtual 106, 3) := by decide +kernel
theorem dX9_series_38 : decode cX9_series 38 = .ok (.ireturn, 1) := by decide +kernel
theorem dX9_series_39 : decode cX9_series 39 = .ok (.aload 4, 2) := by decide +kernel
theorem dX9_series_41 : decode cX9_series 41 = .ok (.iload_n 2, 1) := by decide +kernel
theorem dX9_series_42 : decode cX9_series 42 = .ok (.iload_n 3, 1) := by decide +kernel
theorem dX9_series_43 : decode cX9_series 43 = .ok (.iconst 1, 1) := by decide +kernel
theorem dX9_series_44 : decode cX9_series 44 = .ok (.iadd, 1) := by decide +kernel
theorem dX9_series_45 : decode cX9_series 45 = .ok (.invokevirtual 121, 3) := by decide +kernel
theorem dX9_series_48 : decode cX9_series 48 = .ok (.ifCond .ne 9, 3) := by decide +kernel
theorem dX9_series_51 : decode cX9_series 51 = .ok (.aload_n 0, 1) := by decide +kernel
theorem dX9_series_52 : decode cX9_series 52 = .ok (.iconst 2, 1) := by decide +kernel
theorem dX9_series_53 : decode cX9_series 53 = .ok (.invokevirtual 106, 3) := by decide +kernel
theorem dX9_series_56 : decode cX9_series 56 = .ok (.ireturn, 1) := by decide +kernel
theorem dX9_series_57 : decode cX9_series 57 = .ok (.aload_n 0, 1) := by decide +kernel
theorem dX9_series_58 : decode cX9_series 58 = .ok (.iload_n 3, 1) := by decide +kernel
theorem dX9_series_59 : decode cX9_series 59 = .ok (.invokevirtual 145, 3) := by decide +kernel
theorem dX9_series_62 : decode cX9_series 62 = .ok (.astore 5, 2) := by decide +kernel
theorem dX9_series_64 : decode cX9_series 64 = .ok (.aload 5, 2) := by decide +kernel
theorem dX9_series_66 : decode cX9_series 66 = .ok (.ifnonnull 6, 3) := by decide +kernel
theorem dX9_series_69 : decode cX9_series 69 = .ok (.bipush (-104), 2) := by decide +kernel
theorem dX9_series_71 : decode cX9_series 71 = .ok (.ireturn, 1) := by decide +kernel
theorem dX9_series_72 : decode cX9_series 72 = .ok (.aload_n 0, 1) := by decide +kernel
theorem dX9_series_73 : decode cX9_series 73 = .ok (.aload 4, 2) := by decide +kernel
theorem dX9_series_75 : decode cX9_series 75 = .ok (.iload_n 2, 1) := by decide +kernel
theorem dX9_series_76 : decode cX9_series 76 = .ok (.iload_n 3, 1) := by decide +kernel
theorem dX9_series_77 : decode cX9_series 77 = .ok (.iconst 1, 1) := by decide +kernel
theorem dX9_series_78 : decode cX9_series 78 = .ok (.iadd, 1) := by decide +kernel
theorem dX9_series_79 : decode cX9_series 79 = .ok (.aload 5, 2) := by decide +kernel
theorem dX9_series_81 : decode cX9_series 81 = .ok (.getfield 149, 3) := by decide +kernel
theorem dX9_series_84 : decode cX9_series 84 = .ok (.invokevirtual 152, 3) := by decide +kernel
theorem dX9_series_87 : decode cX9_series 87 = .ok (.aload_n 0, 1) := by decide +kernel
theorem dX9_series_88 : decode cX9_series 88 = .ok (.invokevirtual 156, 3) := by decide +kernel
theorem dX9_series_91 : decode cX9_series 91 = .ok (.ireturn, 1) := by decide +kernel
theorem dX9_share_0 : decode cX9_share 0 = .ok (.aload_n 0, 1) := by decide +kernel
theorem dX9_share_1 : decode cX9_share 1 = .ok (.iload_n 1, 1) := by decide +kernel
theorem dX9_share_2 : decode cX9_share 2 = .ok (.invokevirtual 99, 3) := by decide +kernel
theorem dX9_share_5 : decode cX9_share 5 = .ok (.astore 6, 2) := by decide +kernel
theorem dX9_share_7 : decode cX9_share 7 = .ok (.aload 6, 2) := by decide +kernel
theorem dX9_share_9 : decode cX9_share 9 = .ok (.ifnonnull 6, 3) := by decide +kernel
theorem dX9_share_12 : decode cX9_share 12 = .ok (.bipush (-101), 2) := by decide +kernel
theorem dX9_share_14 : decode cX9_share 14 = .ok (.ireturn, 1) := by decide +kernel
theorem dX9_share_15 : decode cX9_share 15 = .ok (.iload_n 3, 1) := by decide +kernel
theorem dX9_share_16 : decode cX9_share 16 = .ok (.invokestatic 142, 3) := by decide +kernel
theorem dX9_share_19 : decode cX9_share 19 = .ok (.ifCond .eq 19, 3) := by decide +kernel
theorem dX9_share_22 : decode cX9_share 22 = .ok (.iload 4, 2) := by decide +kernel
theorem dX9_share_24 : decode cX9_share 24 = .ok (.invokestatic 142, 3) := by decide +kernel
theorem dX9_share_27 : decode cX9_share 27 = .ok (.ifCond .eq 11, 3) := by decide +kernel
theorem dX9_share_30 : decode cX9_share 30 = .ok (.iload 5, 2) := by decide +kernel
theorem dX9_share_32 : decode cX9_share 32 = .ok (.invokestatic 142, 3) := by decide +kernel
theorem dX9_share_35 : decode cX9_share 35 = .ok (.ifCond .ne 6, 3) := by decide +kernel
theorem dX9_share_38 : decode cX9_share 38 = .ok (.bipush (-102), 2) := by decide +kernel
theorem dX9_share_40 : decode cX9_share 40 = .ok (.ireturn, 1) := by decide +kernel
theorem dX9_share_41 : decode cX9_share 41 = .ok (.aload 6, 2) := by decide +kernel
theorem dX9_share_43 : decode cX9_share 43 = .ok (.getfield 114, 3) := by decide +kernel
theorem dX9_share_46 : decode cX9_share 46 = .ok (.ifCond .eq 9, 3) := by decide +kernel
theorem dX9_share_49 : decode cX9_share 49 = .ok (.aload_n 0, 1) := by decide +kernel
theorem dX9_share_50 : decode cX9_share 50 = .ok (.iconst 1, 1) := by decide +kernel
theorem dX9_share_51 : decode cX9_share 51 = .ok (.invokevirtual 106, 3) := by decide +kernel
theorem dX9_share_54 : decode cX9_share 54 = .ok (.ireturn, 1) := by decide +kernel
theorem dX9_share_55 : decode cX9_share 55 = .ok (.aload 6, 2) := by decide +kernel
theorem dX9_share_57 : decode cX9_share 57 = .ok (.iload_n 2, 1) := by decide +kernel
theorem dX9_share_58 : decode cX9_share 58 = .ok (.iload_n 3, 1) := by decide +kernel
theorem dX9_share_59 : decode cX9_share 59 = .ok (.iload 4, 2) := by decide +kernel
theorem dX9_share_61 : decode cX9_share 61 = .ok (.iadd, 1) := by decide +kernel
theorem dX9_share_62 : decode cX9_share 62 = .ok (.iconst 2, 1) := by decide +kernel
theorem dX9_share_63 : decode cX9_share 63 = .ok (.iadd, 1) := by decide +kernel
theorem dX9_share_64 : decode cX9_share 64 = .ok (.invokevirtual 121, 3) := by decide +kernel
theorem dX9_share_67 : decode cX9_share 67 = .ok (.ifCond .ne 9, 3) := by decide +kernel
theorem dX9_share_70 : decode cX9_share 70 = .ok (.aload_n 0, 1) := by decide +kernel
theorem dX9_share_71 : decode cX9_share 71 = .ok (.iconst 2, 1) := by decide +kernel
theorem dX9_share_72 : decode cX9_share 72 = .ok (.invokevirtual 106, 3) := by decide +kernel
theorem dX9_share_75 : decode cX9_share 75 = .ok (.ireturn, 1) := by decide +kernel
theorem dX9_share_76 : decode cX9_share 76 = .ok (.aload_n 0, 1) := by decide +kernel
theorem dX9_share_77 : decode cX9_share 77 = .ok (.aload 6, 2) := by decide +kernel
theorem dX9_share_79 : decode cX9_share 79 = .ok (.iload_n 2, 1) := by decide +kernel
theorem dX9_share_80 : decode cX9_share 80 = .ok (.iload_n 3, 1) := by decide +kernel
theorem dX9_share_81 : decode cX9_share 81 = .ok (.iconst 1, 1) := by decide +kernel
theorem dX9_share_82 : decode cX9_share 82 = .ok (.iadd, 1) := by decide +kernel
theorem dX9_share_83 : decode cX9_share 83 = .ok (.aload_n 0, 1) := by decide +kernel
theorem dX9_share_84 : decode cX9_share 84 = .ok (.getfield 46, 3) := by decide +kernel
theorem dX9_share_87 : decode cX9_share 87 = .ok (.getfield 160, 3) := by decide +kernel
theorem dX9_share_90 : decode cX9_share 90 = .ok (.invokevirtual 152, 3) := by decide +kernel
theorem dX9_share_93 : decode cX9_share 93 = .ok (.aload_n 0, 1) := by decide +kernel
theorem dX9_share_94 : decode cX9_share 94 = .ok (.aload 6, 2) := by decide +kernel
theorem dX9_share_96 : decode cX9_share 96 = .ok (.iload_n 2, 1) := by decide +kernel
theorem dX9_share_97 : decode cX9_share 97 = .ok (.iload_n 3, 1) := by decide +kernel
theorem dX9_share_98 : decode cX9_share 98 = .ok (.iadd, 1) := by decide +kernel
theorem dX9_share_99 : decode cX9_share 99 = .ok (.iconst 1, 1) := by decide +kernel
theorem dX9_share_100 : decode cX9_share 100 = .ok (.iadd, 1) := by decide +kernel
theorem dX9_share_101 : decode cX9_share 101 = .ok (.iload 4, 2) := by decide +kernel
theorem dX9_share_103 : decode cX9_share 103 = .ok (.iconst 1, 1) := by decide +kernel
theorem dX9_share_104 : decode cX9_share 104 = .ok (.iadd, 1) := by decide +kernel
theorem dX9_share_105 : decode cX9_share 105 = .ok (.aload_n 0, 1) := by decide +kernel
theorem dX9_share_106 : decode cX9_share 106 = .ok (.getfield 46, 3) := by decide +kernel
theorem dX9_share_109 : decode cX9_share 109 = .ok (.getfield 163, 3) := by decide +kernel
theorem dX9_share_112 : decode cX9_share 112 = .ok (.invokevirtual 152, 3) := by decide +kernel
theorem dX9_share_115 : decode cX9_share 115 = .ok (.aload_n 0, 1) := by decide +kernel
theorem dX9_share_116 : decode cX9_share 116 = .ok (.aload_n 0, 1) := by decide +kernel
theorem dX9_share_117 : decode cX9_share 117 = .ok (.getfield 46, 3) := by decide +kernel
theorem dX9_share_120 : decode cX9_share 120 = .ok (.iload 5, 2) := by decide +kernel
theorem dX9_share_122 : decode cX9_share 122 = .ok (.invokevirtual 166, 3) := by decide +kernel
theorem dX9_share_125 : decode cX9_share 125 = .ok (.ireturn, 1) := by decide +kernel
theorem dX9_unfold_0 : decode cX9_unfold 0 = .ok (.iload_n 1, 1) := by decide +kernel
theorem dX9_unfold_1 : decode cX9_unfold 1 = .ok (.invokestatic 142, 3) := by decide +kernel
theorem dX9_unfold_4 : decode cX9_unfold 4 = .ok (.ifCond .eq 15, 3) := by decide +kernel
theorem dX9_unfold_7 : decode cX9_unfold 7 = .ok (.aload_n 0, 1) := by decide +kernel
theorem dX9_unfold_8 : decode cX9_unfold 8 = .ok (.aload_n 0, 1) := by decide +kernel
theorem dX9_unfold_9 : decode cX9_unfold 9 = .ok (.getfield 42, 3) := by decide +kernel
theorem dX9_unfold_12 : decode cX9_unfold 12 = .ok (.iload_n 1, 1) := by decide +kernel
theorem dX9_unfold_13 : decode cX9_unfold 13 = .ok (.invokevirtual 166, 3) := by decide +kernel
theorem dX9_unfold_16 : decode cX9_unfold 16 = .ok (.goto 5, 3) := by decide +kernel
theorem dX9_unfold_19 : decode cX9_unfold 19 = .ok (.bipush (-102), 2) := by decide +kernel
theorem dX9_unfold_21 : decode cX9_unfold 21 = .ok (.ireturn, 1) := by decide +kernel
theorem dX9_plus_0 : decode cX9_plus 0 = .ok (.aload_n 0, 1) := by decide +kernel
theorem dX9_plus_1 : decode cX9_plus 1 = .ok (.iload_n 1, 1) := by decide +kernel
theorem dX9_plus_2 : decode cX9_plus 2 = .ok (.invokevirtual 170, 3) := by decide +kernel
theorem dX9_plus_5 : decode cX9_plus 5 = .ok (.astore 4, 2) := by decide +kernel
theorem dX9_plus_7 : decode cX9_plus 7 = .ok (.aload_n 0, 1) := by decide +kernel
theorem dX9_plus_8 : decode cX9_plus 8 = .ok (.iload_n 2, 1) := by decide +kernel
theorem dX9_plus_9 : decode cX9_plus 9 = .ok (.invokevirtual 170, 3) := by decide +kernel
theorem dX9_plus_12 : decode cX9_plus 12 = .ok (.astore 5, 2) := by decide +kernel
theorem dX9_plus_14 : decode cX9_plus 14 = .ok (.aload 4, 2) := by decide +kernel
theorem dX9_plus_16 : decode cX9_plus 16 = .ok (.ifnull 8, 3) := by decide +kernel
theorem dX9_plus_19 : decode cX9_plus 19 = .ok (.aload 5, 2) := by decide +kernel
theorem dX9_plus_21 : decode cX9_plus 21 = .ok (.ifnonnull 6, 3) := by decide +kernel
theorem dX9_plus_24 : decode cX9_plus 24 = .ok (.bipush (-101), 2) := by decide +kernel
theorem dX9_plus_26 : decode cX9_plus 26 = .ok (.ireturn, 1) := by decide +kernel
theorem dX9_plus_27 : decode cX9_plus 27 = .ok (.aload_n 0, 1) := by decide +kernel
theorem dX9_plus_28 : decode cX9_plus 28 = .ok (.aload 4, 2) := by decide +kernel
theorem dX9_plus_30 : decode cX9_plus 30 = .ok (.getfield 173, 3) := by decide +kernel
theorem dX9_plus_33 : decode cX9_plus 33 = .ok (.aload 5, 2) := by decide +kernel
theorem dX9_plus_35 : decode cX9_plus 35 = .ok (.getfield 173, 3) := by decide +kernel
theorem dX9_plus_38 : decode cX9_plus 38 = .ok (.invokestatic 176, 3) := by decide +kernel
theorem dX9_plus_41 : decode cX9_plus 41 = .ok (.invokevirtual 145, 3) := by decide +kernel
theorem dX9_plus_44 : decode cX9_plus 44 = .ok (.astore 6, 2) := by decide +kernel
theorem dX9_plus_46 : decode cX9_plus 46 = .ok (.aload 6, 2) := by decide +kernel
theorem dX9_plus_48 : decode cX9_plus 48 = .ok (.ifnonnull 6, 3) := by decide +kernel
theorem dX9_plus_51 : decode cX9_plus 51 = .ok (.bipush (-104), 2) := by decide +kernel
theorem dX9_plus_53 : decode cX9_plus 53 = .ok (.ireturn, 1) := by decide +kernel
theorem dX9_plus_54 : decode cX9_plus 54 = .ok (.aload_n 0, 1) := by decide +kernel
theorem dX9_plus_55 : decode cX9_plus 55 = .ok (.getfield 12, 3) := by decide +kernel
theorem dX9_plus_58 : decode cX9_plus 58 = .ok (.iload_n 3, 1) := by decide +kernel
theorem dX9_plus_59 : decode cX9_plus 59 = .ok (.i2l, 1) := by decide +kernel
theorem dX9_plus_60 : decode cX9_plus 60 = .ok (.invokevirtual 182, 3) := by decide +kernel
theorem dX9_plus_63 : decode cX9_plus 63 = .ok (.istore 7, 2) := by decide +kernel
theorem dX9_plus_65 : decode cX9_plus 65 = .ok (.iconst 0, 1) := by decide +kernel
theorem dX9_plus_66 : decode cX9_plus 66 = .ok (.istore 8, 2) := by decide +kernel
theorem dX9_plus_68 : decode cX9_plus 68 = .ok (.iload 8, 2) := by decide +kernel
theorem dX9_plus_70 : decode cX9_plus 70 = .ok (.aload 6, 2) := by decide +kernel
theorem dX9_plus_72 : decode cX9_plus 72 = .ok (.getfield 173, 3) := by decide +kernel
theorem dX9_plus_75 : decode cX9_plus 75 = .ok (.if_icmp .gt 57, 3) := by decide +kernel
theorem dX9_plus_78 : decode cX9_plus 78 = .ok (.aload 4, 2) := by decide +kernel
theorem dX9_plus_80 : decode cX9_plus 80 = .ok (.getfield 149, 3) := by decide +kernel
theorem dX9_plus_83 : decode cX9_plus 83 = .ok (.iload 8, 2) := by decide +kernel
theorem dX9_plus_85 : decode cX9_plus 85 = .ok (.invokevirtual 186, 3) := by decide +kernel
theorem dX9_plus_88 : decode cX9_plus 88 = .ok (.i2l, 1) := by decide +kernel
theorem dX9_plus_89 : decode cX9_plus 89 = .ok (.iload 7, 2) := by decide +kernel
theorem dX9_plus_91 : decode cX9_plus 91 = .ok (.i2l, 1) := by decide +kernel
theorem dX9_plus_92 : decode cX9_plus 92 = .ok (.aload 5, 2) := by decide +kernel
theorem dX9_plus_94 : decode cX9_plus 94 = .ok (.getfield 149, 3) := by decide +kernel
theorem dX9_plus_97 : decode cX9_plus 97 = .ok (.iload 8, 2) := by decide +kernel
theorem dX9_plus_99 : decode cX9_plus 99 = .ok (.invokevirtual 186, 3) := by decide +kernel
theorem dX9_plus_102 : decode cX9_plus 102 = .ok (.i2l, 1) := by decide +kernel
theorem dX9_plus_103 : decode cX9_plus 103 = .ok (.lmul, 1) := by decide +kernel
theorem dX9_plus_104 : decode cX9_plus 104 = .ok (.ladd, 1) := by decide +kernel
theorem dX9_plus_105 : decode cX9_plus 105 = .ok (.lstore 9, 2) := by decide +kernel
theorem dX9_plus_107 : decode cX9_plus 107 = .ok (.aload 6, 2) := by decide +kernel
theorem dX9_plus_109 : decode cX9_plus 109 = .ok (.getfield 149, 3) := by decide +kernel
theorem dX9_plus_112 : decode cX9_plus 112 = .ok (.iload 8, 2) := by decide +kernel
theorem dX9_plus_114 : decode cX9_plus 114 = .ok (.aload_n 0, 1) := by decide +kernel
theorem dX9_plus_115 : decode cX9_plus 115 = .ok (.getfield 12, 3) := by decide +kernel
theorem dX9_plus_118 : decode cX9_plus 118 = .ok (.lload 9, 2) := by decide +kernel
theorem dX9_plus_120 : decode cX9_plus 120 = .ok (.invokevirtual 182, 3) := by decide +kernel
theorem dX9_plus_123 : decode cX9_plus 123 = .ok (.invokevirtual 189, 3) := by decide +kernel
theorem dX9_plus_126 : decode cX9_plus 126 = .ok (.iinc 8 1, 3) := by decide +kernel
theorem dX9_plus_129 : decode cX9_plus 129 = .ok (.goto (-61), 3) := by decide +kernel
theorem dX9_plus_132 : decode cX9_plus 132 = .ok (.aload_n 0, 1) := by decide +kernel
theorem dX9_plus_133 : decode cX9_plus 133 = .ok (.invokevirtual 156, 3) := by decide +kernel
theorem dX9_plus_136 : decode cX9_plus 136 = .ok (.ireturn, 1) := by decide +kernel
