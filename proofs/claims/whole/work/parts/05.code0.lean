theorem dX0_init_0 : decode cX0_init 0 = .ok (.aload_n 0, 1) := by decide +kernel
theorem dX0_init_1 : decode cX0_init 1 = .ok (.invokespecial 3, 3) := by decide +kernel
theorem dX0_init_4 : decode cX0_init 4 = .ok (.aload_n 0, 1) := by decide +kernel
theorem dX0_init_5 : decode cX0_init 5 = .ok (.bipush 40, 2) := by decide +kernel
theorem dX0_init_7 : decode cX0_init 7 = .ok (.bipush 40, 2) := by decide +kernel
theorem dX0_init_9 : decode cX0_init 9 = .ok (.multianewarray 9 2, 4) := by decide +kernel
theorem dX0_init_13 : decode cX0_init 13 = .ok (.putfield 11, 3) := by decide +kernel
theorem dX0_init_16 : decode cX0_init 16 = .ok (.return_, 1) := by decide +kernel
theorem dX0_fill_0 : decode cX0_fill 0 = .ok (.iconst 0, 1) := by decide +kernel
theorem dX0_fill_1 : decode cX0_fill 1 = .ok (.istore 4, 2) := by decide +kernel
theorem dX0_fill_3 : decode cX0_fill 3 = .ok (.iload 4, 2) := by decide +kernel
theorem dX0_fill_5 : decode cX0_fill 5 = .ok (.iload_n 3, 1) := by decide +kernel
theorem dX0_fill_6 : decode cX0_fill 6 = .ok (.if_icmp .ge 62, 3) := by decide +kernel
theorem dX0_fill_9 : decode cX0_fill 9 = .ok (.iload 4, 2) := by decide +kernel
theorem dX0_fill_11 : decode cX0_fill 11 = .ok (.bipush 40, 2) := by decide +kernel
theorem dX0_fill_13 : decode cX0_fill 13 = .ok (.if_icmp .ge 55, 3) := by decide +kernel
theorem dX0_fill_16 : decode cX0_fill 16 = .ok (.iconst 0, 1) := by decide +kernel
theorem dX0_fill_17 : decode cX0_fill 17 = .ok (.istore 5, 2) := by decide +kernel
theorem dX0_fill_19 : decode cX0_fill 19 = .ok (.iload 5, 2) := by decide +kernel
theorem dX0_fill_21 : decode cX0_fill 21 = .ok (.iload_n 3, 1) := by decide +kernel
theorem dX0_fill_22 : decode cX0_fill 22 = .ok (.if_icmp .ge 40, 3) := by decide +kernel
theorem dX0_fill_25 : decode cX0_fill 25 = .ok (.iload 5, 2) := by decide +kernel
theorem dX0_fill_27 : decode cX0_fill 27 = .ok (.bipush 40, 2) := by decide +kernel
theorem dX0_fill_29 : decode cX0_fill 29 = .ok (.if_icmp .ge 33, 3) := by decide +kernel
theorem dX0_fill_32 : decode cX0_fill 32 = .ok (.aload_n 0, 1) := by decide +kernel
theorem dX0_fill_33 : decode cX0_fill 33 = .ok (.getfield 11, 3) := by decide +kernel
theorem dX0_fill_36 : decode cX0_fill 36 = .ok (.iload 4, 2) := by decide +kernel
theorem dX0_fill_38 : decode cX0_fill 38 = .ok (.aaload, 1) := by decide +kernel
theorem dX0_fill_39 : decode cX0_fill 39 = .ok (.iload 5, 2) := by decide +kernel
theorem dX0_fill_41 : decode cX0_fill 41 = .ok (.aload_n 1, 1) := by decide +kernel
theorem dX0_fill_42 : decode cX0_fill 42 = .ok (.getfield 16, 3) := by decide +kernel
theorem dX0_fill_45 : decode cX0_fill 45 = .ok (.iload_n 2, 1) := by decide +kernel
theorem dX0_fill_46 : decode cX0_fill 46 = .ok (.iload 4, 2) := by decide +kernel
theorem dX0_fill_48 : decode cX0_fill 48 = .ok (.iadd, 1) := by decide +kernel
theorem dX0_fill_49 : decode cX0_fill 49 = .ok (.iload 5, 2) := by decide +kernel
theorem dX0_fill_51 : decode cX0_fill 51 = .ok (.isub, 1) := by decide +kernel
theorem dX0_fill_52 : decode cX0_fill 52 = .ok (.invokevirtual 22, 3) := by decide +kernel
theorem dX0_fill_55 : decode cX0_fill 55 = .ok (.iastore, 1) := by decide +kernel
theorem dX0_fill_56 : decode cX0_fill 56 = .ok (.iinc 5 1, 3) := by decide +kernel
theorem dX0_fill_59 : decode cX0_fill 59 = .ok (.goto (-40), 3) := by decide +kernel
theorem dX0_fill_62 : decode cX0_fill 62 = .ok (.iinc 4 1, 3) := by decide +kernel
theorem dX0_fill_65 : decode cX0_fill 65 = .ok (.goto (-62), 3) := by decide +kernel
theorem dX0_fill_68 : decode cX0_fill 68 = .ok (.return_, 1) := by decide +kernel
theorem dX0_compute_0 : decode cX0_compute 0 = .ok (.iconst 1, 1) := by decide +kernel
theorem dX0_compute_1 : decode cX0_compute 1 = .ok (.istore_n 3, 1) := by decide +kernel
theorem dX0_compute_2 : decode cX0_compute 2 = .ok (.iconst 0, 1) := by decide +kernel
theorem dX0_compute_3 : decode cX0_compute 3 = .ok (.istore 4, 2) := by decide +kernel
theorem dX0_compute_5 : decode cX0_compute 5 = .ok (.iload 4, 2) := by decide +kernel
theorem dX0_compute_7 : decode cX0_compute 7 = .ok (.iload_n 1, 1) := by decide +kernel
theorem dX0_compute_8 : decode cX0_compute 8 = .ok (.if_icmp .ge 77, 3) := by decide +kernel
theorem dX0_compute_11 : decode cX0_compute 11 = .ok (.iload 4, 2) := by decide +kernel
theorem dX0_compute_13 : decode cX0_compute 13 = .ok (.bipush 40, 2) := by decide +kernel
theorem dX0_compute_15 : decode cX0_compute 15 = .ok (.if_icmp .ge 70, 3) := by decide +kernel
theorem dX0_compute_18 : decode cX0_compute 18 = .ok (.aload_n 0, 1) := by decide +kernel
theorem dX0_compute_19 : decode cX0_compute 19 = .ok (.iload 4, 2) := by decide +kernel
theorem dX0_compute_21 : decode cX0_compute 21 = .ok (.iload_n 1, 1) := by decide +kernel
theorem dX0_compute_22 : decode cX0_compute 22 = .ok (.invokevirtual 28, 3) := by decide +kernel
theorem dX0_compute_25 : decode cX0_compute 25 = .ok (.istore 5, 2) := by decide +kernel
theorem dX0_compute_27 : decode cX0_compute 27 = .ok (.iload 5, 2) := by decide +kernel
theorem dX0_compute_29 : decode cX0_compute 29 = .ok (.ifCond .ge 5, 3) := by decide +kernel
theorem dX0_compute_32 : decode cX0_compute 32 = .ok (.iconst 0, 1) := by decide +kernel
theorem dX0_compute_33 : decode cX0_compute 33 = .ok (.ireturn, 1) := by decide +kernel
theorem dX0_compute_34 : decode cX0_compute 34 = .ok (.iload 5, 2) := by decide +kernel
theorem dX0_compute_36 : decode cX0_compute 36 = .ok (.iload 4, 2) := by decide +kernel
theorem dX0_compute_38 : decode cX0_compute 38 = .ok (.if_icmp .eq 17, 3) := by decide +kernel
theorem dX0_compute_41 : decode cX0_compute 41 = .ok (.aload_n 0, 1) := by decide +kernel
theorem dX0_compute_42 : decode cX0_compute 42 = .ok (.iload 5, 2) := by decide +kernel
theorem dX0_compute_44 : decode cX0_compute 44 = .ok (.iload 4, 2) := by decide +kernel
theorem dX0_compute_46 : decode cX0_compute 46 = .ok (.invokevirtual 32, 3) := by decide +kernel
theorem dX0_compute_49 : decode cX0_compute 49 = .ok (.aload_n 2, 1) := by decide +kernel
theorem dX0_compute_50 : decode cX0_compute 50 = .ok (.iload_n 3, 1) := by decide +kernel
theorem dX0_compute_51 : decode cX0_compute 51 = .ok (.invokevirtual 36, 3) := by decide +kernel
theorem dX0_compute_54 : decode cX0_compute 54 = .ok (.istore_n 3, 1) := by decide +kernel
theorem dX0_compute_55 : decode cX0_compute 55 = .ok (.aload_n 2, 1) := by decide +kernel
theorem dX0_compute_56 : decode cX0_compute 56 = .ok (.iload_n 3, 1) := by decide +kernel
theorem dX0_compute_57 : decode cX0_compute 57 = .ok (.aload_n 0, 1) := by decide +kernel
theorem dX0_compute_58 : decode cX0_compute 58 = .ok (.getfield 11, 3) := by decide +kernel
theorem dX0_compute_61 : decode cX0_compute 61 = .ok (.iload 4, 2) := by decide +kernel
theorem dX0_compute_63 : decode cX0_compute 63 = .ok (.aaload, 1) := by decide +kernel
theorem dX0_compute_64 : decode cX0_compute 64 = .ok (.iload 4, 2) := by decide +kernel
theorem dX0_compute_66 : decode cX0_compute 66 = .ok (.iaload, 1) := by decide +kernel
theorem dX0_compute_67 : decode cX0_compute 67 = .ok (.invokevirtual 41, 3) := by decide +kernel
theorem dX0_compute_70 : decode cX0_compute 70 = .ok (.istore_n 3, 1) := by decide +kernel
theorem dX0_compute_71 : decode cX0_compute 71 = .ok (.aload_n 0, 1) := by decide +kernel
theorem dX0_compute_72 : decode cX0_compute 72 = .ok (.iload 4, 2) := by decide +kernel
theorem dX0_compute_74 : decode cX0_compute 74 = .ok (.iload_n 1, 1) := by decide +kernel
theorem dX0_compute_75 : decode cX0_compute 75 = .ok (.aload_n 2, 1) := by decide +kernel
theorem dX0_compute_76 : decode cX0_compute 76 = .ok (.invokevirtual 44, 3) := by decide +kernel
theorem dX0_compute_79 : decode cX0_compute 79 = .ok (.iinc 4 1, 3) := by decide +kernel
theorem dX0_compute_82 : decode cX0_compute 82 = .ok (.goto (-77), 3) := by decide +kernel
theorem dX0_compute_85 : decode cX0_compute 85 = .ok (.iload_n 3, 1) := by decide +kernel
theorem dX0_compute_86 : decode cX0_compute 86 = .ok (.ireturn, 1) := by decide +kernel
theorem dX0_pivotRow_0 : decode cX0_pivotRow 0 = .ok (.iload_n 1, 1) := by decide +kernel
theorem dX0_pivotRow_1 : decode cX0_pivotRow 1 = .ok (.istore_n 3, 1) := by decide +kernel
theorem dX0_pivotRow_2 : decode cX0_pivotRow 2 = .ok (.iload_n 3, 1) := by decide +kernel
theorem dX0_pivotRow_3 : decode cX0_pivotRow 3 = .ok (.iload_n 2, 1) := by decide +kernel
theorem dX0_pivotRow_4 : decode cX0_pivotRow 4 = .ok (.if_icmp .ge 28, 3) := by decide +kernel
theorem dX0_pivotRow_7 : decode cX0_pivotRow 7 = .ok (.iload_n 3, 1) := by decide +kernel
theorem dX0_pivotRow_8 : decode cX0_pivotRow 8 = .ok (.bipush 40, 2) := by decide +kernel
theorem dX0_pivotRow_10 : decode cX0_pivotRow 10 = .ok (.if_icmp .ge 22, 3) := by decide +kernel
theorem dX0_pivotRow_13 : decode cX0_pivotRow 13 = .ok (.aload_n 0, 1) := by decide +kernel
theorem dX0_pivotRow_14 : decode cX0_pivotRow 14 = .ok (.getfield 11, 3) := by decide +kernel
theorem dX0_pivotRow_17 : decode cX0_pivotRow 17 = .ok (.iload_n 3, 1) := by decide +kernel
theorem dX0_pivotRow_18 : decode cX0_pivotRow 18 = .ok (.aaload, 1) := by decide +kernel
theorem dX0_pivotRow_19 : decode cX0_pivotRow 19 = .ok (.iload_n 1, 1) := by decide +kernel
theorem dX0_pivotRow_20 : decode cX0_pivotRow 20 = .ok (.iaload, 1) := by decide +kernel
theorem dX0_pivotRow_21 : decode cX0_pivotRow 21 = .ok (.ifCond .eq 5, 3) := by decide +kernel
theorem dX0_pivotRow_24 : decode cX0_pivotRow 24 = .ok (.iload_n 3, 1) := by decide +kernel
theorem dX0_pivotRow_25 : decode cX0_pivotRow 25 = .ok (.ireturn, 1) := by decide +kernel
theorem dX0_pivotRow_26 : decode cX0_pivotRow 26 = .ok (.iinc 3 1, 3) := by decide +kernel
theorem dX0_pivotRow_29 : decode cX0_pivotRow 29 = .ok (.goto (-27), 3) := by decide +kernel
theorem dX0_pivotRow_32 : decode cX0_pivotRow 32 = .ok (.iconst (-1), 1) := by decide +kernel
theorem dX0_pivotRow_33 : decode cX0_pivotRow 33 = .ok (.ireturn, 1) := by decide +kernel
theorem dX0_swapRows_0 : decode cX0_swapRows 0 = .ok (.aload_n 0, 1) := by decide +kernel
theorem dX0_swapRows_1 : decode cX0_swapRows 1 = .ok (.getfield 11, 3) := by decide +kernel
theorem dX0_swapRows_4 : decode cX0_swapRows 4 = .ok (.iload_n 1, 1) := by decide +kernel
theorem dX0_swapRows_5 : decode cX0_swapRows 5 = .ok (.aaload, 1) := by decide +kernel
theorem dX0_swapRows_6 : decode cX0_swapRows 6 = .ok (.astore_n 3, 1) := by decide +kernel
theorem dX0_swapRows_7 : decode cX0_swapRows 7 = .ok (.aload_n 0, 1) := by decide +kernel
theorem dX0_swapRows_8 : decode cX0_swapRows 8 = .ok (.getfield 11, 3) := by decide +kernel
theorem dX0_swapRows_11 : decode cX0_swapRows 11 = .ok (.iload_n 1, 1) := by decide +kernel
theorem dX0_swapRows_12 : decode cX0_swapRows 12 = .ok (.aload_n 0, 1) := by decide +kernel
theorem dX0_swapRows_13 : decode cX0_swapRows 13 = .ok (.getfield 11, 3) := by decide +kernel
theorem dX0_swapRows_16 : decode cX0_swapRows 16 = .ok (.iload_n 2, 1) := by decide +kernel
theorem dX0_swapRows_17 : decode cX0_swapRows 17 = .ok (.aaload, 1) := by decide +kernel
theorem dX0_swapRows_18 : decode cX0_swapRows 18 = .ok (.aastore, 1) := by decide +kernel
theorem dX0_swapRows_19 : decode cX0_swapRows 19 = .ok (.aload_n 0, 1) := by decide +kernel
theorem dX0_swapRows_20 : decode cX0_swapRows 20 = .ok (.getfield 11, 3) := by decide +kernel
theorem dX0_swapRows_23 : decode cX0_swapRows 23 = .ok (.iload_n 2, 1) := by decide +kernel
theorem dX0_swapRows_24 : decode cX0_swapRows 24 = .ok (.aload_n 3, 1) := by decide +kernel
theorem dX0_swapRows_25 : decode cX0_swapRows 25 = .ok (.aastore, 1) := by decide +kernel
theorem dX0_swapRows_26 : decode cX0_swapRows 26 = .ok (.return_, 1) := by decide +kernel
theorem dX0_clearBelow_0 : decode cX0_clearBelow 0 = .ok (.aload_n 3, 1) := by decide +kernel
theorem dX0_clearBelow_1 : decode cX0_clearBelow 1 = .ok (.aload_n 0, 1) := by decide +kernel
theorem dX0_clearBelow_2 : decode cX0_clearBelow 2 = .ok (.getfield 11, 3) := by decide +kernel
theorem dX0_clearBelow_5 : decode cX0_clearBelow 5 = .ok (.iload_n 1, 1) := by decide +kernel
theorem dX0_clearBelow_6 : decode cX0_clearBelow 6 = .ok (.aaload, 1) := by decide +kernel
theorem dX0_clearBelow_7 : decode cX0_clearBelow 7 = .ok (.iload_n 1, 1) := by decide +kernel
theorem dX0_clearBelow_8 : decode cX0_clearBelow 8 = .ok (.iaload, 1) := by decide +kernel
theorem dX0_clearBelow_9 : decode cX0_clearBelow 9 = .ok (.invokevirtual 48, 3) := by decide +kernel
theorem dX0_clearBelow_12 : decode cX0_clearBelow 12 = .ok (.istore 4, 2) := by decide +kernel
theorem dX0_clearBelow_14 : decode cX0_clearBelow 14 = .ok (.iload_n 1, 1) := by decide +kernel
theorem dX0_clearBelow_15 : decode cX0_clearBelow 15 = .ok (.iconst 1, 1) := by decide +kernel
theorem dX0_clearBelow_16 : decode cX0_clearBelow 16 = .ok (.iadd, 1) := by decide +kernel
theorem dX0_clearBelow_17 : decode cX0_clearBelow 17 = .ok (.istore 5, 2) := by decide +kernel
theorem dX0_clearBelow_19 : decode cX0_clearBelow 19 = .ok (.iload 5, 2) := by decide +kernel
theorem dX0_clearBelow_21 : decode cX0_clearBelow 21 = .ok (.iload_n 2, 1) := by decide +kernel
theorem dX0_clearBelow_22 : decode cX0_clearBelow 22 = .ok (.if_icmp .ge 95, 3) := by decide +kernel
theorem dX0_clearBelow_25 : decode cX0_clearBelow 25 = .ok (.iload 5, 2) := by decide +kernel
theorem dX0_clearBelow_27 : decode cX0_clearBelow 27 = .ok (.bipush 40, 2) := by decide +kernel
theorem dX0_clearBelow_29 : decode cX0_clearBelow 29 = .ok (.if_icmp .ge 88, 3) := by decide +kernel
theorem dX0_clearBelow_32 : decode cX0_clearBelow 32 = .ok (.aload_n 3, 1) := by decide +kernel
theorem dX0_clearBelow_33 : decode cX0_clearBelow 33 = .ok (.aload_n 0, 1) := by decide +kernel
theorem dX0_clearBelow_34 : decode cX0_clearBelow 34 = .ok (.getfield 11, 3) := by decide +kernel
theorem dX0_clearBelow_37 : decode cX0_clearBelow 37 = .ok (.iload 5, 2) := by decide +kernel
theorem dX0_clearBelow_39 : decode cX0_clearBelow 39 = .ok (.aaload, 1) := by decide +kernel
theorem dX0_clearBelow_40 : decode cX0_clearBelow 40 = .ok (.iload_n 1, 1) := by decide +kernel
theorem dX0_clearBelow_41 : decode cX0_clearBelow 41 = .ok (.iaload, 1) := by decide +kernel
theorem dX0_clearBelow_42 : decode cX0_clearBelow 42 = .ok (.iload 4, 2) := by decide +kernel
theorem dX0_clearBelow_44 : decode cX0_clearBelow 44 = .ok (.invokevirtual 41, 3) := by decide +kernel
theorem dX0_clearBelow_47 : decode cX0_clearBelow 47 = .ok (.istore 6, 2) := by decide +kernel
theorem dX0_clearBelow_49 : decode cX0_clearBelow 49 = .ok (.iload_n 1, 1) := by decide +kernel
theorem dX0_clearBelow_50 : decode cX0_clearBelow 50 = .ok (.istore 7, 2) := by decide +kernel
theorem dX0_clearBelow_52 : decode cX0_clearBelow 52 = .ok (.iload 7, 2) := by decide +kernel
theorem dX0_clearBelow_54 : decode cX0_clearBelow 54 = .ok (.iload_n 2, 1) := by decide +kernel
theorem dX0_clearBelow_55 : decode cX0_clearBelow 55 = .ok (.if_icmp .ge 56, 3) := by decide +kernel
theorem dX0_clearBelow_58 : decode cX0_clearBelow 58 = .ok (.iload 7, 2) := by decide +kernel
theorem dX0_clearBelow_60 : decode cX0_clearBelow 60 = .ok (.bipush 40, 2) := by decide +kernel
theorem dX0_clearBelow_62 : decode cX0_clearBelow 62 = .ok (.if_icmp .ge 49, 3) := by decide +kernel
theorem dX0_clearBelow_65 : decode cX0_clearBelow 65 = .ok (.aload_n 0, 1) := by decide +kernel
theorem dX0_clearBelow_66 : decode cX0_clearBelow 66 = .ok (.getfield 11, 3) := by decide +kernel
theorem dX0_clearBelow_69 : decode cX0_clearBelow 69 = .ok (.iload 5, 2) := by decide +kernel
theorem dX0_clearBelow_71 : decode cX0_clearBelow 71 = .ok (.aaload, 1) := by decide +kernel
theorem dX0_clearBelow_72 : decode cX0_clearBelow 72 = .ok (.iload 7, 2) := by decide +kernel
theorem dX0_clearBelow_74 : decode cX0_clearBelow 74 = .ok (.aload_n 3, 1) := by decide +kernel
theorem dX0_clearBelow_75 : decode cX0_clearBelow 75 = .ok (.aload_n 0, 1) := by decide +kernel
theorem dX0_clearBelow_76 : decode cX0_clearBelow 76 = .ok (.getfield 11, 3) := by decide +kernel
theorem dX0_clearBelow_79 : decode cX0_clearBelow 79 = .ok (.iload 5, 2) := by decide +kernel
theorem dX0_clearBelow_81 : decode cX0_clearBelow 81 = .ok (.aaload, 1) := by decide +kernel
theorem dX0_clearBelow_82 : decode cX0_clearBelow 82 = .ok (.iload 7, 2) := by decide +kernel
theorem dX0_clearBelow_84 : decode cX0_clearBelow 84 = .ok (.iaload, 1) := by decide +kernel
theorem dX0_clearBelow_85 : decode cX0_clearBelow 85 = .ok (.i2l, 1) := by decide +kernel
theorem dX0_clearBelow_86 : decode cX0_clearBelow 86 = .ok (.iload 6, 2) := by decide +kernel
theorem dX0_clearBelow_88 : decode cX0_clearBelow 88 = .ok (.i2l, 1) := by decide +kernel
theorem dX0_clearBelow_89 : decode cX0_clearBelow 89 = .ok (.aload_n 0, 1) := by decide +kernel
theorem dX0_clearBelow_90 : decode cX0_clearBelow 90 = .ok (.getfield 11, 3) := by decide +kernel
theorem dX0_clearBelow_93 : decode cX0_clearBelow 93 = .ok (.iload_n 1, 1) := by decide +kernel
theorem dX0_clearBelow_94 : decode cX0_clearBelow 94 = .ok (.aaload, 1) := by decide +kernel
theorem dX0_clearBelow_95 : decode cX0_clearBelow 95 = .ok (.iload 7, 2) := by decide +kernel
theorem dX0_clearBelow_97 : decode cX0_clearBelow 97 = .ok (.iaload, 1) := by decide +kernel
theorem dX0_clearBelow_98 : decode cX0_clearBelow 98 = .ok (.i2l, 1) := by decide +kernel
theorem dX0_clearBelow_99 : decode cX0_clearBelow 99 = .ok (.lmul, 1) := by decide +kernel
theorem dX0_clearBelow_100 : decode cX0_clearBelow 100 = .ok (.lsub, 1) := by decide +kernel
theorem dX0_clearBelow_101 : decode cX0_clearBelow 101 = .ok (.invokevirtual 51, 3) := by decide +kernel
theorem dX0_clearBelow_104 : decode cX0_clearBelow 104 = .ok (.iastore, 1) := by decide +kernel
theorem dX0_clearBelow_105 : decode cX0_clearBelow 105 = .ok (.iinc 7 1, 3) := by decide +kernel
theorem dX0_clearBelow_108 : decode cX0_clearBelow 108 = .ok (.goto (-56), 3) := by decide +kernel
theorem dX0_clearBelow_111 : decode cX0_clearBelow 111 = .ok (.iinc 5 1, 3) := by decide +kernel
theorem dX0_clearBelow_114 : decode cX0_clearBelow 114 = .ok (.goto (-95), 3) := by decide +kernel
theorem dX0_clearBelow_117 : decode cX0_clearBelow 117 = .ok (.return_, 1) := by decide +kernel
theorem dX1_init_0 : decode cX1_init 0 = .ok (.aload_n 0, 1) := by decide +kernel
theorem dX1_init_1 : decode cX1_init 1 = .ok (.invokespecial 3, 3) := by decide +kernel
theorem dX1_init_4 : decode cX1_init 4 = .ok (.aload_n 0, 1) := by decide +kernel
theorem dX1_init_5 : decode cX1_init 5 = .ok (.new 9, 3) := by decide +kernel
theorem dX1_init_8 : decode cX1_init 8 = .ok (.dup, 1) := by decide +kernel
theorem dX1_init_9 : decode cX1_init 9 = .ok (.invokespecial 11, 3) := by decide +kernel
theorem dX1_init_12 : decode cX1_init 12 = .ok (.putfield 12, 3) := by decide +kernel
theorem dX1_init_15 : decode cX1_init 15 = .ok (.aload_n 0, 1) := by decide +kernel
theorem dX1_init_16 : decode cX1_init 16 = .ok (.new 9, 3) := by decide +kernel
theorem dX1_init_19 : decode cX1_init 19 = .ok (.dup, 1) := by decide +kernel
theorem dX1_init_20 : decode cX1_init 20 = .ok (.invokespecial 11, 3) := by decide +kernel
theorem dX1_init_23 : decode cX1_init 23 = .ok (.putfield 18, 3) := by decide +kernel
theorem dX1_init_26 : decode cX1_init 26 = .ok (.aload_n 0, 1) := by decide +kernel
theorem dX1_init_27 : decode cX1_init 27 = .ok (.new 9, 3) := by decide +kernel
theorem dX1_init_30 : decode cX1_init 30 = .ok (.dup, 1) := by decide +kernel
theorem dX1_init_31 : decode cX1_init 31 = .ok (.invokespecial 11, 3) := by decide +kernel
theorem dX1_init_34 : decode cX1_init 34 = .ok (.putfield 21, 3) := by decide +kernel
theorem dX1_init_37 : decode cX1_init 37 = .ok (.aload_n 0, 1) := by decide +kernel
theorem dX1_init_38 : decode cX1_init 38 = .ok (.new 9, 3) := by decide +kernel
theorem dX1_init_41 : decode cX1_init 41 = .ok (.dup, 1) := by decide +kernel
theorem dX1_init_42 : decode cX1_init 42 = .ok (.invokespecial 11, 3) := by decide +kernel
theorem dX1_init_45 : decode cX1_init 45 = .ok (.putfield 24, 3) := by decide +kernel
theorem dX1_init_48 : decode cX1_init 48 = .ok (.aload_n 0, 1) := by decide +kernel
theorem dX1_init_49 : decode cX1_init 49 = .ok (.new 9, 3) := by decide +kernel
theorem dX1_init_52 : decode cX1_init 52 = .ok (.dup, 1) := by decide +kernel
theorem dX1_init_53 : decode cX1_init 53 = .ok (.invokespecial 11, 3) := by decide +kernel
theorem dX1_init_56 : decode cX1_init 56 = .ok (.putfield 27, 3) := by decide +kernel
theorem dX1_init_59 : decode cX1_init 59 = .ok (.return_, 1) := by decide +kernel
theorem dX1_findShare_0 : decode cX1_findShare 0 = .ok (.aload_n 0, 1) := by decide +kernel
theorem dX1_findShare_1 : decode cX1_findShare 1 = .ok (.getfield 12, 3) := by decide +kernel
theorem dX1_findShare_4 : decode cX1_findShare 4 = .ok (.astore 4, 2) := by decide +kernel
theorem dX1_findShare_6 : decode cX1_findShare 6 = .ok (.aload_n 0, 1) := by decide +kernel
theorem dX1_findShare_7 : decode cX1_findShare 7 = .ok (.getfield 18, 3) := by decide +kernel
theorem dX1_findShare_10 : decode cX1_findShare 10 = .ok (.astore 5, 2) := by decide +kernel
theorem dX1_findShare_12 : decode cX1_findShare 12 = .ok (.aload_n 0, 1) := by decide +kernel
theorem dX1_findShare_13 : decode cX1_findShare 13 = .ok (.getfield 24, 3) := by decide +kernel
theorem dX1_findShare_16 : decode cX1_findShare 16 = .ok (.astore 6, 2) := by decide +kernel
theorem dX1_findShare_18 : decode cX1_findShare 18 = .ok (.aload_n 0, 1) := by decide +kernel
theorem dX1_findShare_19 : decode cX1_findShare 19 = .ok (.getfield 21, 3) := by decide +kernel
theorem dX1_findShare_22 : decode cX1_findShare 22 = .ok (.astore 7, 2) := by decide +kernel
theorem dX1_findShare_24 : decode cX1_findShare 24 = .ok (.aload 6, 2) := by decide +kernel
theorem dX1_findShare_26 : decode cX1_findShare 26 = .ok (.iconst 0, 1) := by decide +kernel
theorem dX1_findShare_27 : decode cX1_findShare 27 = .ok (.invokevirtual 30, 3) := by decide +kernel
theorem dX1_findShare_30 : decode cX1_findShare 30 = .ok (.aload 7, 2) := by decide +kernel
theorem dX1_findShare_32 : decode cX1_findShare 32 = .ok (.iconst 1, 1) := by decide +kernel
theorem dX1_findShare_33 : decode cX1_findShare 33 = .ok (.invokevirtual 30, 3) := by decide +kernel
theorem dX1_findShare_36 : decode cX1_findShare 36 = .ok (.iconst 0, 1) := by decide +kernel
theorem dX1_findShare_37 : decode cX1_findShare 37 = .ok (.istore 8, 2) := by decide +kernel
theorem dX1_findShare_39 : decode cX1_findShare 39 = .ok (.iload 8, 2) := by decide +kernel
theorem dX1_findShare_41 : decode cX1_findShare 41 = .ok (.bipush 42, 2) := by decide +kernel
theorem dX1_findShare_43 : decode cX1_findShare 43 = .ok (.if_icmp .ge 66, 3) := by decide +kernel
theorem dX1_findShare_46 : decode cX1_findShare 46 = .ok (.aload 5, 2) := by decide +kernel
theorem dX1_findShare_48 : decode cX1_findShare 48 = .ok (.invokevirtual 34, 3) := by decide +kernel
theorem dX1_findShare_51 : decode cX1_findShare 51 = .ok (.iload_n 1, 1) := by decide +kernel
theorem dX1_findShare_52 : decode cX1_findShare 52 = .ok (.if_icmp .le 57, 3) := by decide +kernel
theorem dX1_findShare_55 : decode cX1_findShare 55 = .ok (.aload 4, 2) := by decide +kernel
theorem dX1_findShare_57 : decode cX1_findShare 57 = .ok (.aload 5, 2) := by decide +kernel
theorem dX1_findShare_59 : decode cX1_findShare 59 = .ok (.aload_n 0, 1) := by decide +kernel
theorem dX1_findShare_60 : decode cX1_findShare 60 = .ok (.getfield 27, 3) := by decide +kernel
theorem dX1_findShare_63 : decode cX1_findShare 63 = .ok (.aload_n 3, 1) := by decide +kernel
theorem dX1_findShare_64 : decode cX1_findShare 64 = .ok (.invokevirtual 38, 3) := by decide +kernel
theorem dX1_findShare_67 : decode cX1_findShare 67 = .ok (.aload 6, 2) := by decide +kernel
theorem dX1_findShare_69 : decode cX1_findShare 69 = .ok (.aload_n 0, 1) := by decide +kernel
theorem dX1_findShare_70 : decode cX1_findShare 70 = .ok (.getfield 27, 3) := by decide +kernel
theorem dX1_findShare_73 : decode cX1_findShare 73 = .ok (.aload 7, 2) := by decide +kernel
theorem dX1_findShare_75 : decode cX1_findShare 75 = .ok (.aload_n 3, 1) := by decide +kernel
theorem dX1_findShare_76 : decode cX1_findShare 76 = .ok (.invokevirtual 42, 3) := by decide +kernel
theorem dX1_findShare_79 : decode cX1_findShare 79 = .ok (.aload 4, 2) := by decide +kernel
theorem dX1_findShare_81 : decode cX1_findShare 81 = .ok (.astore 9, 2) := by decide +kernel
theorem dX1_findShare_83 : decode cX1_findShare 83 = .ok (.aload 5, 2) := by decide +kernel
theorem dX1_findShare_85 : decode cX1_findShare 85 = .ok (.astore 4, 2) := by decide +kernel
theorem dX1_findShare_87 : decode cX1_findShare 87 = .ok (.aload 9, 2) := by decide +kernel
theorem dX1_findShare_89 : decode cX1_findShare 89 = .ok (.astore 5, 2) := by decide +kernel
theorem dX1_findShare_91 : decode cX1_findShare 91 = .ok (.aload 6, 2) := by decide +kernel
theorem dX1_findShare_93 : decode cX1_findShare 93 = .ok (.astore 10, 2) := by decide +kernel
theorem dX1_findShare_95 : decode cX1_findShare 95 = .ok (.aload 7, 2) := by decide +kernel
theorem dX1_findShare_97 : decode cX1_findShare 97 = .ok (.astore 6, 2) := by decide +kernel
theorem dX1_findShare_99 : decode cX1_findShare 99 = .ok (.aload 10, 2) := by decide +kernel
theorem dX1_findShare_101 : decode cX1_findShare 101 = .ok (.astore 7, 2) := by decide +kernel
theorem dX1_findShare_103 : decode cX1_findShare 103 = .ok (.iinc 8 1, 3) := by decide +kernel
theorem dX1_findShare_106 : decode cX1_findShare 106 = .ok (.goto (-67), 3) := by decide +kernel
theorem dX1_findShare_109 : decode cX1_findShare 109 = .ok (.aload_n 2, 1) := by decide +kernel
theorem dX1_findShare_110 : decode cX1_findShare 110 = .ok (.getfield 45, 3) := by decide +kernel
theorem dX1_findShare_113 : decode cX1_findShare 113 = .ok (.aload 5, 2) := by decide +kernel
theorem dX1_findShare_115 : decode cX1_findShare 115 = .ok (.invokevirtual 50, 3) := by decide +kernel
theorem dX1_findShare_118 : decode cX1_findShare 118 = .ok (.aload_n 2, 1) := by decide +kernel
theorem dX1_findShare_119 : decode cX1_findShare 119 = .ok (.getfield 54, 3) := by decide +kernel
theorem dX1_findShare_122 : decode cX1_findShare 122 = .ok (.aload 7, 2) := by decide +kernel
theorem dX1_findShare_124 : decode cX1_findShare 124 = .ok (.invokevirtual 50, 3) := by decide +kernel
theorem dX1_findShare_127 : decode cX1_findShare 127 = .ok (.aload_n 0, 1) := by decide +kernel
theorem dX1_findShare_128 : decode cX1_findShare 128 = .ok (.aload_n 2, 1) := by decide +kernel
theorem dX1_findShare_129 : decode cX1_findShare 129 = .ok (.aload_n 3, 1) := by decide +kernel
theorem dX1_findShare_130 : decode cX1_findShare 130 = .ok (.invokevirtual 57, 3) := by decide +kernel
theorem dX1_findShare_133 : decode cX1_findShare 133 = .ok (.return_, 1) := by decide +kernel
theorem dX1_dropCommonFactors_0 : decode cX1_dropCommonFactors 0 = .ok (.aload_n 0, 1) := by decide +kernel
theorem dX1_dropCommonFactors_1 : decode cX1_dropCommonFactors 1 = .ok (.getfield 12, 3) := by decide +kernel
theorem dX1_dropCommonFactors_4 : decode cX1_dropCommonFactors 4 = .ok (.astore_n 3, 1) := by decide +kernel
theorem dX1_dropCommonFactors_5 : decode cX1_dropCommonFactors 5 = .ok (.aload_n 0, 1) := by decide +kernel
theorem dX1_dropCommonFactors_6 : decode cX1_dropCommonFactors 6 = .ok (.getfield 18, 3) := by decide +kernel
theorem dX1_dropCommonFactors_9 : decode cX1_dropCommonFactors 9 = .ok (.astore 4, 2) := by decide +kernel
theorem dX1_dropCommonFactors_11 : decode cX1_dropCommonFactors 11 = .ok (.aload_n 3, 1) := by decide +kernel
theorem dX1_dropCommonFactors_12 : decode cX1_dropCommonFactors 12 = .ok (.aload_n 1, 1) := by decide +kernel
theorem dX1_dropCommonFactors_13 : decode cX1_dropCommonFactors 13 = .ok (.getfield 54, 3) := by decide +kernel
theorem dX1_dropCommonFactors_16 : decode cX1_dropCommonFactors 16 = .ok (.invokevirtual 50, 3) := by decide +kernel
theorem dX1_dropCommonFactors_19 : decode cX1_dropCommonFactors 19 = .ok (.aload 4, 2) := by decide +kernel
theorem dX1_dropCommonFactors_21 : decode cX1_dropCommonFactors 21 = .ok (.aload_n 1, 1) := by decide +kernel
theorem dX1_dropCommonFactors_22 : decode cX1_dropCommonFactors 22 = .ok (.getfield 45, 3) := by decide +kernel
theorem dX1_dropCommonFactors_25 : decode cX1_dropCommonFactors 25 = .ok (.invokevirtual 50, 3) := by decide +kernel
theorem dX1_dropCommonFactors_28 : decode cX1_dropCommonFactors 28 = .ok (.iconst 0, 1) := by decide +kernel
theorem dX1_dropCommonFactors_29 : decode cX1_dropCommonFactors 29 = .ok (.istore 5, 2) := by decide +kernel
theorem dX1_dropCommonFactors_31 : decode cX1_dropCommonFactors 31 = .ok (.iload 5, 2) := by decide +kernel
theorem dX1_dropCommonFactors_33 : decode cX1_dropCommonFactors 33 = .ok (.bipush 42, 2) := by decide +kernel
theorem dX1_dropCommonFactors_35 : decode cX1_dropCommonFactors 35 = .ok (.if_icmp .ge 38, 3) := by decide +kernel
theorem dX1_dropCommonFactors_38 : decode cX1_dropCommonFactors 38 = .ok (.aload 4, 2) := by decide +kernel
theorem dX1_dropCommonFactors_40 : decode cX1_dropCommonFactors 40 = .ok (.invokevirtual 34, 3) := by decide +kernel
theorem dX1_dropCommonFactors_43 : decode cX1_dropCommonFactors 43 = .ok (.ifCond .lt 30, 3) := by decide +kernel
theorem dX1_dropCommonFactors_46 : decode cX1_dropCommonFactors 46 = .ok (.aload_n 3, 1) := by decide +kernel
theorem dX1_dropCommonFactors_47 : decode cX1_dropCommonFactors 47 = .ok (.aload 4, 2) := by decide +kernel
theorem dX1_dropCommonFactors_49 : decode cX1_dropCommonFactors 49 = .ok (.aload_n 0, 1) := by decide +kernel
theorem dX1_dropCommonFactors_50 : decode cX1_dropCommonFactors 50 = .ok (.getfield 27, 3) := by decide +kernel
theorem dX1_dropCommonFactors_53 : decode cX1_dropCommonFactors 53 = .ok (.aload_n 2, 1) := by decide +kernel
theorem dX1_dropCommonFactors_54 : decode cX1_dropCommonFactors 54 = .ok (.invokevirtual 38, 3) := by decide +kernel
theorem dX1_dropCommonFactors_57 : decode cX1_dropCommonFactors 57 = .ok (.aload_n 3, 1) := by decide +kernel
theorem dX1_dropCommonFactors_58 : decode cX1_dropCommonFactors 58 = .ok (.astore 6, 2) := by decide +kernel
theorem dX1_dropCommonFactors_60 : decode cX1_dropCommonFactors 60 = .ok (.aload 4, 2) := by decide +kernel
theorem dX1_dropCommonFactors_62 : decode cX1_dropCommonFactors 62 = .ok (.astore_n 3, 1) := by decide +kernel
theorem dX1_dropCommonFactors_63 : decode cX1_dropCommonFactors 63 = .ok (.aload 6, 2) := by decide +kernel
theorem dX1_dropCommonFactors_65 : decode cX1_dropCommonFactors 65 = .ok (.astore 4, 2) := by decide +kernel
theorem dX1_dropCommonFactors_67 : decode cX1_dropCommonFactors 67 = .ok (.iinc 5 1, 3) := by decide +kernel
theorem dX1_dropCommonFactors_70 : decode cX1_dropCommonFactors 70 = .ok (.goto (-39), 3) := by decide +kernel
theorem dX1_dropCommonFactors_73 : decode cX1_dropCommonFactors 73 = .ok (.aload_n 1, 1) := by decide +kernel
theorem dX1_dropCommonFactors_74 : decode cX1_dropCommonFactors 74 = .ok (.getfield 45, 3) := by decide +kernel
theorem dX1_dropCommonFactors_77 : decode cX1_dropCommonFactors 77 = .ok (.aload_n 3, 1) := by decide +kernel
theorem dX1_dropCommonFactors_78 : decode cX1_dropCommonFactors 78 = .ok (.aload_n 0, 1) := by decide +kernel
theorem dX1_dropCommonFactors_79 : decode cX1_dropCommonFactors 79 = .ok (.getfield 27, 3) := by decide +kernel
theorem dX1_dropCommonFactors_82 : decode cX1_dropCommonFactors 82 = .ok (.aload_n 2, 1) := by decide +kernel
theorem dX1_dropCommonFactors_83 : decode cX1_dropCommonFactors 83 = .ok (.invokevirtual 38, 3) := by decide +kernel
theorem dX1_dropCommonFactors_86 : decode cX1_dropCommonFactors 86 = .ok (.aload_n 1, 1) := by decide +kernel
theorem dX1_dropCommonFactors_87 : decode cX1_dropCommonFactors 87 = .ok (.getfield 45, 3) := by decide +kernel
theorem dX1_dropCommonFactors_90 : decode cX1_dropCommonFactors 90 = .ok (.aload_n 0, 1) := by decide +kernel
theorem dX1_dropCommonFactors_91 : decode cX1_dropCommonFactors 91 = .ok (.getfield 27, 3) := by decide +kernel
theorem dX1_dropCommonFactors_94 : decode cX1_dropCommonFactors 94 = .ok (.invokevirtual 50, 3) := by decide +kernel
theorem dX1_dropCommonFactors_97 : decode cX1_dropCommonFactors 97 = .ok (.aload_n 1, 1) := by decide +kernel
theorem dX1_dropCommonFactors_98 : decode cX1_dropCommonFactors 98 = .ok (.getfield 54, 3) := by decide +kernel
theorem dX1_dropCommonFactors_101 : decode cX1_dropCommonFactors 101 = .ok (.aload_n 3, 1) := by decide +kernel
theorem dX1_dropCommonFactors_102 : decode cX1_dropCommonFactors 102 = .ok (.aload_n 0, 1) := by decide +kernel
theorem dX1_dropCommonFactors_103 : decode cX1_dropCommonFactors 103 = .ok (.getfield 27, 3) := by decide +kernel
theorem dX1_dropCommonFactors_106 : decode cX1_dropCommonFactors 106 = .ok (.aload_n 2, 1) := by decide +kernel
theorem dX1_dropCommonFactors_107 : decode cX1_dropCommonFactors 107 = .ok (.invokevirtual 38, 3) := by decide +kernel
theorem dX1_dropCommonFactors_110 : decode cX1_dropCommonFactors 110 = .ok (.aload_n 1, 1) := by decide +kernel
theorem dX1_dropCommonFactors_111 : decode cX1_dropCommonFactors 111 = .ok (.getfield 54, 3) := by decide +kernel
theorem dX1_dropCommonFactors_114 : decode cX1_dropCommonFactors 114 = .ok (.aload_n 0, 1) := by decide +kernel
theorem dX1_dropCommonFactors_115 : decode cX1_dropCommonFactors 115 = .ok (.getfield 27, 3) := by decide +kernel
theorem dX1_dropCommonFactors_118 : decode cX1_dropCommonFactors 118 = .ok (.invokevirtual 50, 3) := by decide +kernel
theorem dX1_dropCommonFactors_121 : decode cX1_dropCommonFactors 121 = .ok (.aload_n 2, 1) := by decide +kernel
theorem dX1_dropCommonFactors_122 : decode cX1_dropCommonFactors 122 = .ok (.aload_n 1, 1) := by decide +kernel
theorem dX1_dropCommonFactors_123 : decode cX1_dropCommonFactors 123 = .ok (.getfield 54, 3) := by decide +kernel
theorem dX1_dropCommonFactors_126 : decode cX1_dropCommonFactors 126 = .ok (.invokevirtual 61, 3) := by decide +kernel
theorem dX1_dropCommonFactors_129 : decode cX1_dropCommonFactors 129 = .ok (.invokevirtual 64, 3) := by decide +kernel
theorem dX1_dropCommonFactors_132 : decode cX1_dropCommonFactors 132 = .ok (.istore 5, 2) := by decide +kernel
theorem dX1_dropCommonFactors_134 : decode cX1_dropCommonFactors 134 = .ok (.aload_n 1, 1) := by decide +kernel
theorem dX1_dropCommonFactors_135 : decode cX1_dropCommonFactors 135 = .ok (.getfield 45, 3) := by decide +kernel
theorem dX1_dropCommonFactors_138 : decode cX1_dropCommonFactors 138 = .ok (.iload 5, 2) := by decide +kernel
theorem dX1_dropCommonFactors_140 : decode cX1_dropCommonFactors 140 = .ok (.aload_n 2, 1) := by decide +kernel
theorem dX1_dropCommonFactors_141 : decode cX1_dropCommonFactors 141 = .ok (.invokevirtual 70, 3) := by decide +kernel
theorem dX1_dropCommonFactors_144 : decode cX1_dropCommonFactors 144 = .ok (.aload_n 1, 1) := by decide +kernel
theorem dX1_dropCommonFactors_145 : decode cX1_dropCommonFactors 145 = .ok (.getfield 54, 3) := by decide +kernel
theorem dX1_dropCommonFactors_148 : decode cX1_dropCommonFactors 148 = .ok (.iload 5, 2) := by decide +kernel
theorem dX1_dropCommonFactors_150 : decode cX1_dropCommonFactors 150 = .ok (.aload_n 2, 1) := by decide +kernel
theorem dX1_dropCommonFactors_151 : decode cX1_dropCommonFactors 151 = .ok (.invokevirtual 70, 3) := by decide +kernel
theorem dX1_dropCommonFactors_154 : decode cX1_dropCommonFactors 154 = .ok (.return_, 1) := by decide +kernel
theorem dX2_init_0 : decode cX2_init 0 = .ok (.aload_n 0, 1) := by decide +kernel
theorem dX2_init_1 : decode cX2_init 1 = .ok (.invokespecial 3, 3) := by decide +kernel
theorem dX2_init_4 : decode cX2_init 4 = .ok (.aload_n 0, 1) := by decide +kernel
theorem dX2_init_5 : decode cX2_init 5 = .ok (.bipush 20, 2) := by decide +kernel
theorem dX2_init_7 : decode cX2_init 7 = .ok (.newarray .int, 2) := by decide +kernel
theorem dX2_init_9 : decode cX2_init 9 = .ok (.putfield 9, 3) := by decide +kernel
theorem dX2_init_12 : decode cX2_init 12 = .ok (.aload_n 0, 1) := by decide +kernel
theorem dX2_init_13 : decode cX2_init 13 = .ok (.bipush 20, 2) := by decide +kernel
theorem dX2_init_15 : decode cX2_init 15 = .ok (.newarray .int, 2) := by decide +kernel
theorem dX2_init_17 : decode cX2_init 17 = .ok (.putfield 15, 3) := by decide +kernel
theorem dX2_init_20 : decode cX2_init 20 = .ok (.aload_n 0, 1) := by decide +kernel
theorem dX2_init_21 : decode cX2_init 21 = .ok (.iconst 0, 1) := by decide +kernel
theorem dX2_init_22 : decode cX2_init 22 = .ok (.putfield 18, 3) := by decide +kernel
theorem dX2_init_25 : decode cX2_init 25 = .ok (.return_, 1) := by decide +kernel
theorem dX2_indexOf_0 : decode cX2_indexOf 0 = .ok (.iconst 0, 1) := by decide +kernel
theorem dX2_indexOf_1 : decode cX2_indexOf 1 = .ok (.istore_n 2, 1) := by decide +kernel
theorem dX2_indexOf_2 : decode cX2_indexOf 2 = .ok (.iload_n 2, 1) := by decide +kernel
theorem dX2_indexOf_3 : decode cX2_indexOf 3 = .ok (.aload_n 0, 1) := by decide +kernel
theorem dX2_indexOf_4 : decode cX2_indexOf 4 = .ok (.getfield 18, 3) := by decide +kernel
theorem dX2_indexOf_7 : decode cX2_indexOf 7 = .ok (.if_icmp .ge 27, 3) := by decide +kernel
theorem dX2_indexOf_10 : decode cX2_indexOf 10 = .ok (.iload_n 2, 1) := by decide +kernel
theorem dX2_indexOf_11 : decode cX2_indexOf 11 = .ok (.bipush 20, 2) := by decide +kernel
theorem dX2_indexOf_13 : decode cX2_indexOf 13 = .ok (.if_icmp .ge 21, 3) := by decide +kernel
theorem dX2_indexOf_16 : decode cX2_indexOf 16 = .ok (.aload_n 0, 1) := by decide +kernel
theorem dX2_indexOf_17 : decode cX2_indexOf 17 = .ok (.getfield 9, 3) := by decide +kernel
theorem dX2_indexOf_20 : decode cX2_indexOf 20 = .ok (.iload_n 2, 1) := by decide +kernel
theorem dX2_indexOf_21 : decode cX2_indexOf 21 = .ok (.iaload, 1) := by decide +kernel
theorem dX2_indexOf_22 : decode cX2_indexOf 22 = .ok (.iload_n 1, 1) := by decide +kernel
theorem dX2_indexOf_23 : decode cX2_indexOf 23 = .ok (.if_icmp .ne 5, 3) := by decide +kernel
theorem dX2_indexOf_26 : decode cX2_indexOf 26 = .ok (.iload_n 2, 1) := by decide +kernel
theorem dX2_indexOf_27 : decode cX2_indexOf 27 = .ok (.ireturn, 1) := by decide +kernel
theorem dX2_indexOf_28 : decode cX2_indexOf 28 = .ok (.iinc 2 1, 3) := by decide +kernel
theorem dX2_indexOf_31 : decode cX2_indexOf 31 = .ok (.goto (-29), 3) := by decide +kernel
theorem dX2_indexOf_34 : decode cX2_indexOf 34 = .ok (.iconst (-1), 1) := by decide +kernel
theorem dX2_indexOf_35 : decode cX2_indexOf 35 = .ok (.ireturn, 1) := by decide +kernel
theorem dX2_heightAt_0 : decode cX2_heightAt 0 = .ok (.iload_n 1, 1) := by decide +kernel
theorem dX2_heightAt_1 : decode cX2_heightAt 1 = .ok (.ifCond .lt 18, 3) := by decide +kernel
theorem dX2_heightAt_4 : decode cX2_heightAt 4 = .ok (.iload_n 1, 1) := by decide +kernel
theorem dX2_heightAt_5 : decode cX2_heightAt 5 = .ok (.bipush 20, 2) := by decide +kernel
theorem dX2_heightAt_7 : decode cX2_heightAt 7 = .ok (.if_icmp .ge 12, 3) := by decide +kernel
theorem dX2_heightAt_10 : decode cX2_heightAt 10 = .ok (.aload_n 0, 1) := by decide +kernel
theorem dX2_heightAt_11 : decode cX2_heightAt 11 = .ok (.getfield 15, 3) := by decide +kernel
theorem dX2_heightAt_14 : decode cX2_heightAt 14 = .ok (.iload_n 1, 1) := by decide +kernel
theorem dX2_heightAt_15 : decode cX2_heightAt 15 = .ok (.iaload, 1) := by decide +kernel
theorem dX2_heightAt_16 : decode cX2_heightAt 16 = .ok (.goto 4, 3) := by decide +kernel
theorem dX2_heightAt_19 : decode cX2_heightAt 19 = .ok (.iconst 0, 1) := by decide +kernel
theorem dX2_heightAt_20 : decode cX2_heightAt 20 = .ok (.ireturn, 1) := by decide +kernel
theorem dX2_add_0 : decode cX2_add 0 = .ok (.aload_n 0, 1) := by decide +kernel
theorem dX2_add_1 : decode cX2_add 1 = .ok (.getfield 18, 3) := by decide +kernel
theorem dX2_add_4 : decode cX2_add 4 = .ok (.bipush 20, 2) := by decide +kernel
theorem dX2_add_6 : decode cX2_add 6 = .ok (.if_icmp .ge 33, 3) := by decide +kernel
theorem dX2_add_9 : decode cX2_add 9 = .ok (.aload_n 0, 1) := by decide +kernel
theorem dX2_add_10 : decode cX2_add 10 = .ok (.getfield 9, 3) := by decide +kernel
theorem dX2_add_13 : decode cX2_add 13 = .ok (.aload_n 0, 1) := by decide +kernel
theorem dX2_add_14 : decode cX2_add 14 = .ok (.getfield 18, 3) := by decide +kernel
theorem dX2_add_17 : decode cX2_add 17 = .ok (.iload_n 1, 1) := by decide +kernel
theorem dX2_add_18 : decode cX2_add 18 = .ok (.iastore, 1) := by decide +kernel
theorem dX2_add_19 : decode cX2_add 19 = .ok (.aload_n 0, 1) := by decide +kernel
theorem dX2_add_20 : decode cX2_add 20 = .ok (.getfield 15, 3) := by decide +kernel
theorem dX2_add_23 : decode cX2_add 23 = .ok (.aload_n 0, 1) := by decide +kernel
theorem dX2_add_24 : decode cX2_add 24 = .ok (.getfield 18, 3) := by decide +kernel
theorem dX2_add_27 : decode cX2_add 27 = .ok (.iload_n 2, 1) := by decide +kernel
theorem dX2_add_28 : decode cX2_add 28 = .ok (.iastore, 1) := by decide +kernel
theorem dX2_add_29 : decode cX2_add 29 = .ok (.aload_n 0, 1) := by decide +kernel
theorem dX2_add_30 : decode cX2_add 30 = .ok (.dup, 1) := by decide +kernel
theorem dX2_add_31 : decode cX2_add 31 = .ok (.getfield 18, 3) := by decide +kernel
theorem dX2_add_34 : decode cX2_add 34 = .ok (.iconst 1, 1) := by decide +kernel
theorem dX2_add_35 : decode cX2_add 35 = .ok (.iadd, 1) := by decide +kernel
theorem dX2_add_36 : decode cX2_add 36 = .ok (.putfield 18, 3) := by decide +kernel
theorem dX2_add_39 : decode cX2_add 39 = .ok (.return_, 1) := by decide +kernel
theorem dX2_interpolate_0 : decode cX2_interpolate 0 = .ok (.aload_n 1, 1) := by decide +kernel
theorem dX2_interpolate_1 : decode cX2_interpolate 1 = .ok (.iconst 1, 1) := by decide +kernel
theorem dX2_interpolate_2 : decode cX2_interpolate 2 = .ok (.invokevirtual 22, 3) := by decide +kernel
theorem dX2_interpolate_5 : decode cX2_interpolate 5 = .ok (.aload_n 2, 1) := by decide +kernel
theorem dX2_interpolate_6 : decode cX2_interpolate 6 = .ok (.iconst 0, 1) := by decide +kernel
theorem dX2_interpolate_7 : decode cX2_interpolate 7 = .ok (.invokevirtual 22, 3) := by decide +kernel
theorem dX2_interpolate_10 : decode cX2_interpolate 10 = .ok (.iconst 0, 1) := by decide +kernel
theorem dX2_interpolate_11 : decode cX2_interpolate 11 = .ok (.istore 4, 2) := by decide +kernel
theorem dX2_interpolate_13 : decode cX2_interpolate 13 = .ok (.iload 4, 2) := by decide +kernel
theorem dX2_interpolate_15 : decode cX2_interpolate 15 = .ok (.aload_n 0, 1) := by decide +kernel
theorem dX2_interpolate_16 : decode cX2_interpolate 16 = .ok (.getfield 18, 3) := by decide +kernel
theorem dX2_interpolate_19 : decode cX2_interpolate 19 = .ok (.if_icmp .ge 89, 3) := by decide +kernel
theorem dX2_interpolate_22 : decode cX2_interpolate 22 = .ok (.iload 4, 2) := by decide +kernel
theorem dX2_interpolate_24 : decode cX2_interpolate 24 = .ok (.bipush 20, 2) := by decide +kernel
theorem dX2_interpolate_26 : decode cX2_interpolate 26 = .ok (.if_icmp .ge 82, 3) := by decide +kernel
theorem dX2_interpolate_29 : decode cX2_interpolate 29 = .ok (.aload_n 3, 1) := by decide +kernel
theorem dX2_interpolate_30 : decode cX2_interpolate 30 = .ok (.aload_n 0, 1) := by decide +kernel
theorem dX2_interpolate_31 : decode cX2_interpolate 31 = .ok (.getfield 15, 3) := by decide +kernel
theorem dX2_interpolate_34 : decode cX2_interpolate 34 = .ok (.iload 4, 2) := by decide +kernel
theorem dX2_interpolate_36 : decode cX2_interpolate 36 = .ok (.iaload, 1) := by decide +kernel
theorem dX2_interpolate_37 : decode cX2_interpolate 37 = .ok (.i2l, 1) := by decide +kernel
theorem dX2_interpolate_38 : decode cX2_interpolate 38 = .ok (.aload_n 2, 1) := by decide +kernel
theorem dX2_interpolate_39 : decode cX2_interpolate 39 = .ok (.aload_n 0, 1) := by decide +kernel
theorem dX2_interpolate_40 : decode cX2_interpolate 40 = .ok (.getfield 9, 3) := by decide +kernel
theorem dX2_interpolate_43 : decode cX2_interpolate 43 = .ok (.iload 4, 2) := by decide +kernel
theorem dX2_interpolate_45 : decode cX2_interpolate 45 = .ok (.iaload, 1) := by decide +kernel
theorem dX2_interpolate_46 : decode cX2_interpolate 46 = .ok (.aload_n 3, 1) := by decide +kernel
theorem dX2_interpolate_47 : decode cX2_interpolate 47 = .ok (.invokevirtual 28, 3) := by decide +kernel
theorem dX2_interpolate_50 : decode cX2_interpolate 50 = .ok (.i2l, 1) := by decide +kernel
theorem dX2_interpolate_51 : decode cX2_interpolate 51 = .ok (.lsub, 1) := by decide +kernel
theorem dX2_interpolate_52 : decode cX2_interpolate 52 = .ok (.invokevirtual 32, 3) := by decide +kernel
theorem dX2_interpolate_55 : decode cX2_interpolate 55 = .ok (.istore 5, 2) := by decide +kernel
theorem dX2_interpolate_57 : decode cX2_interpolate 57 = .ok (.aload_n 3, 1) := by decide +kernel
theorem dX2_interpolate_58 : decode cX2_interpolate 58 = .ok (.aload_n 1, 1) := by decide +kernel
theorem dX2_interpolate_59 : decode cX2_interpolate 59 = .ok (.aload_n 0, 1) := by decide +kernel
theorem dX2_interpolate_60 : decode cX2_interpolate 60 = .ok (.getfield 9, 3) := by decide +kernel
theorem dX2_interpolate_63 : decode cX2_interpolate 63 = .ok (.iload 4, 2) := by decide +kernel
theorem dX2_interpolate_65 : decode cX2_interpolate 65 = .ok (.iaload, 1) := by decide +kernel
theorem dX2_interpolate_66 : decode cX2_interpolate 66 = .ok (.aload_n 3, 1) := by decide +kernel
theorem dX2_interpolate_67 : decode cX2_interpolate 67 = .ok (.invokevirtual 28, 3) := by decide +kernel
theorem dX2_interpolate_70 : decode cX2_interpolate 70 = .ok (.invokevirtual 38, 3) := by decide +kernel
theorem dX2_interpolate_73 : decode cX2_interpolate 73 = .ok (.istore 6, 2) := by decide +kernel
theorem dX2_interpolate_75 : decode cX2_interpolate 75 = .ok (.aload_n 2, 1) := by decide +kernel
theorem dX2_interpolate_76 : decode cX2_interpolate 76 = .ok (.aload_n 1, 1) := by decide +kernel
theorem dX2_interpolate_77 : decode cX2_interpolate 77 = .ok (.aload_n 3, 1) := by decide +kernel
theorem dX2_interpolate_78 : decode cX2_interpolate 78 = .ok (.iload 5, 2) := by decide +kernel
theorem dX2_interpolate_80 : decode cX2_interpolate 80 = .ok (.iload 6, 2) := by decide +kernel
theorem dX2_interpolate_82 : decode cX2_interpolate 82 = .ok (.invokevirtual 42, 3) := by decide +kernel
theorem dX2_interpolate_85 : decode cX2_interpolate 85 = .ok (.iconst 0, 1) := by decide +kernel
theorem dX2_interpolate_86 : decode cX2_interpolate 86 = .ok (.aload_n 3, 1) := by decide +kernel
theorem dX2_interpolate_87 : decode cX2_interpolate 87 = .ok (.invokevirtual 46, 3) := by decide +kernel
theorem dX2_interpolate_90 : decode cX2_interpolate 90 = .ok (.aload_n 1, 1) := by decide +kernel
theorem dX2_interpolate_91 : decode cX2_interpolate 91 = .ok (.aload_n 0, 1) := by decide +kernel
theorem dX2_interpolate_92 : decode cX2_interpolate 92 = .ok (.getfield 9, 3) := by decide +kernel
theorem dX2_interpolate_95 : decode cX2_interpolate 95 = .ok (.iload 4, 2) := by decide +kernel
theorem dX2_interpolate_97 : decode cX2_interpolate 97 = .ok (.iaload, 1) := by decide +kernel
theorem dX2_interpolate_98 : decode cX2_interpolate 98 = .ok (.aload_n 3, 1) := by decide +kernel
theorem dX2_interpolate_99 : decode cX2_interpolate 99 = .ok (.invokevirtual 50, 3) := by decide +kernel
theorem dX2_interpolate_102 : decode cX2_interpolate 102 = .ok (.iinc 4 1, 3) := by decide +kernel
theorem dX2_interpolate_105 : decode cX2_interpolate 105 = .ok (.goto (-92), 3) := by decide +kernel
theorem dX2_interpolate_108 : decode cX2_interpolate 108 = .ok (.return_, 1) := by decide +kernel
theorem dX2_allOn_0 : decode cX2_allOn 0 = .ok (.iconst 0, 1) := by decide +kernel
theorem dX2_allOn_1 : decode cX2_allOn 1 = .ok (.istore_n 3, 1) := by decide +kernel
theorem dX2_allOn_2 : decode cX2_allOn 2 = .ok (.iload_n 3, 1) := by decide +kernel
theorem dX2_allOn_3 : decode cX2_allOn 3 = .ok (.aload_n 0, 1) := by decide +kernel
theorem dX2_allOn_4 : decode cX2_allOn 4 = .ok (.getfield 18, 3) := by decide +kernel
theorem dX2_allOn_7 : decode cX2_allOn 7 = .ok (.if_icmp .ge 71, 3) := by decide +kernel
theorem dX2_allOn_10 : decode cX2_allOn 10 = .ok (.iload_n 3, 1) := by decide +kernel
theorem dX2_allOn_11 : decode cX2_allOn 11 = .ok (.bipush 20, 2) := by decide +kernel
theorem dX2_allOn_13 : decode cX2_allOn 13 = .ok (.if_icmp .ge 65, 3) := by decide +kernel
theorem dX2_allOn_16 : decode cX2_allOn 16 = .ok (.aload_n 1, 1) := by decide +kernel
theorem dX2_allOn_17 : decode cX2_allOn 17 = .ok (.getfield 54, 3) := by decide +kernel
theorem dX2_allOn_20 : decode cX2_allOn 20 = .ok (.aload_n 0, 1) := by decide +kernel
theorem dX2_allOn_21 : decode cX2_allOn 21 = .ok (.getfield 9, 3) := by decide +kernel
theorem dX2_allOn_24 : decode cX2_allOn 24 = .ok (.iload_n 3, 1) := by decide +kernel
theorem dX2_allOn_25 : decode cX2_allOn 25 = .ok (.iaload, 1) := by decide +kernel
theorem dX2_allOn_26 : decode cX2_allOn 26 = .ok (.aload_n 2, 1) := by decide +kernel
theorem dX2_allOn_27 : decode cX2_allOn 27 = .ok (.invokevirtual 28, 3) := by decide +kernel
theorem dX2_allOn_30 : decode cX2_allOn 30 = .ok (.istore 4, 2) := by decide +kernel
theorem dX2_allOn_32 : decode cX2_allOn 32 = .ok (.aload_n 2, 1) := by decide +kernel
theorem dX2_allOn_33 : decode cX2_allOn 33 = .ok (.aload_n 0, 1) := by decide +kernel
theorem dX2_allOn_34 : decode cX2_allOn 34 = .ok (.getfield 15, 3) := by decide +kernel
theorem dX2_allOn_37 : decode cX2_allOn 37 = .ok (.iload_n 3, 1) := by decide +kernel
theorem dX2_allOn_38 : decode cX2_allOn 38 = .ok (.iaload, 1) := by decide +kernel
theorem dX2_allOn_39 : decode cX2_allOn 39 = .ok (.iload 4, 2) := by decide +kernel
theorem dX2_allOn_41 : decode cX2_allOn 41 = .ok (.invokevirtual 42, 3) := by decide +kernel
theorem dX2_allOn_44 : decode cX2_allOn 44 = .ok (.istore 5, 2) := by decide +kernel
theorem dX2_allOn_46 : decode cX2_allOn 46 = .ok (.iload 4, 2) := by decide +kernel
theorem dX2_allOn_48 : decode cX2_allOn 48 = .ok (.ifCond .eq 22, 3) := by decide +kernel
theorem dX2_allOn_51 : decode cX2_allOn 51 = .ok (.aload_n 1, 1) := by decide +kernel
theorem dX2_allOn_52 : decode cX2_allOn 52 = .ok (.getfield 60, 3) := by decide +kernel
theorem dX2_allOn_55 : decode cX2_allOn 55 = .ok (.aload_n 0, 1) := by decide +kernel
theorem dX2_allOn_56 : decode cX2_allOn 56 = .ok (.getfield 9, 3) := by decide +kernel
theorem dX2_allOn_59 : decode cX2_allOn 59 = .ok (.iload_n 3, 1) := by decide +kernel
theorem dX2_allOn_60 : decode cX2_allOn 60 = .ok (.iaload, 1) := by decide +kernel
theorem dX2_allOn_61 : decode cX2_allOn 61 = .ok (.aload_n 2, 1) := by decide +kernel
theorem dX2_allOn_62 : decode cX2_allOn 62 = .ok (.invokevirtual 28, 3) := by decide +kernel
theorem dX2_allOn_65 : decode cX2_allOn 65 = .ok (.iload 5, 2) := by decide +kernel
theorem dX2_allOn_67 : decode cX2_allOn 67 = .ok (.if_icmp .eq 5, 3) := by decide +kernel
theorem dX2_allOn_70 : decode cX2_allOn 70 = .ok (.iconst 0, 1) := by decide +kernel
theorem dX2_allOn_71 : decode cX2_allOn 71 = .ok (.ireturn, 1) := by decide +kernel
theorem dX2_allOn_72 : decode cX2_allOn 72 = .ok (.iinc 3 1, 3) := by decide +kernel
theorem dX2_allOn_75 : decode cX2_allOn 75 = .ok (.goto (-73), 3) := by decide +kernel
theorem dX2_allOn_78 : decode cX2_allOn 78 = .ok (.iconst 1, 1) := by decide +kernel
theorem dX2_allOn_79 : decode cX2_allOn 79 = .ok (.ireturn, 1) := by decide +kernel
theorem dX2_mixedInto_0 : decode cX2_mixedInto 0 = .ok (.lload_n 1, 1) := by decide +kernel
theorem dX2_mixedInto_1 : decode cX2_mixedInto 1 = .ok (.lstore_n 3, 1) := by decide +kernel
theorem dX2_mixedInto_2 : decode cX2_mixedInto 2 = .ok (.iconst 0, 1) := by decide +kernel
theorem dX2_mixedInto_3 : decode cX2_mixedInto 3 = .ok (.istore 5, 2) := by decide +kernel
theorem dX2_mixedInto_5 : decode cX2_mixedInto 5 = .ok (.iload 5, 2) := by decide +kernel
theorem dX2_mixedInto_7 : decode cX2_mixedInto 7 = .ok (.aload_n 0, 1) := by decide +kernel
theorem dX2_mixedInto_8 : decode cX2_mixedInto 8 = .ok (.getfield 18, 3) := by decide +kernel
theorem dX2_mixedInto_11 : decode cX2_mixedInto 11 = .ok (.if_icmp .ge 40, 3) := by decide +kernel
theorem dX2_mixedInto_14 : decode cX2_mixedInto 14 = .ok (.iload 5, 2) := by decide +kernel
theorem dX2_mixedInto_16 : decode cX2_mixedInto 16 = .ok (.bipush 20, 2) := by decide +kernel
theorem dX2_mixedInto_18 : decode cX2_mixedInto 18 = .ok (.if_icmp .ge 33, 3) := by decide +kernel
theorem dX2_mixedInto_21 : decode cX2_mixedInto 21 = .ok (.lload_n 3, 1) := by decide +kernel
theorem dX2_mixedInto_22 : decode cX2_mixedInto 22 = .ok (.aload_n 0, 1) := by decide +kernel
theorem dX2_mixedInto_23 : decode cX2_mixedInto 23 = .ok (.getfield 9, 3) := by decide +kernel
theorem dX2_mixedInto_26 : decode cX2_mixedInto 26 = .ok (.iload 5, 2) := by decide +kernel
theorem dX2_mixedInto_28 : decode cX2_mixedInto 28 = .ok (.iaload, 1) := by decide +kernel
theorem dX2_mixedInto_29 : decode cX2_mixedInto 29 = .ok (.i2l, 1) := by decide +kernel
theorem dX2_mixedInto_30 : decode cX2_mixedInto 30 = .ok (.invokestatic 63, 3) := by decide +kernel
theorem dX2_mixedInto_33 : decode cX2_mixedInto 33 = .ok (.aload_n 0, 1) := by decide +kernel
theorem dX2_mixedInto_34 : decode cX2_mixedInto 34 = .ok (.getfield 15, 3) := by decide +kernel
theorem dX2_mixedInto_37 : decode cX2_mixedInto 37 = .ok (.iload 5, 2) := by decide +kernel
theorem dX2_mixedInto_39 : decode cX2_mixedInto 39 = .ok (.iaload, 1) := by decide +kernel
theorem dX2_mixedInto_40 : decode cX2_mixedInto 40 = .ok (.i2l, 1) := by decide +kernel
theorem dX2_mixedInto_41 : decode cX2_mixedInto 41 = .ok (.invokestatic 63, 3) := by decide +kernel
theorem dX2_mixedInto_44 : decode cX2_mixedInto 44 = .ok (.lstore_n 3, 1) := by decide +kernel
theorem dX2_mixedInto_45 : decode cX2_mixedInto 45 = .ok (.iinc 5 1, 3) := by decide +kernel
theorem dX2_mixedInto_48 : decode cX2_mixedInto 48 = .ok (.goto (-43), 3) := by decide +kernel
theorem dX2_mixedInto_51 : decode cX2_mixedInto 51 = .ok (.lload_n 3, 1) := by decide +kernel
theorem dX2_mixedInto_52 : decode cX2_mixedInto 52 = .ok (.lreturn, 1) := by decide +kernel
theorem dX3_init_0 : decode cX3_init 0 = .ok (.aload_n 0, 1) := by decide +kernel
theorem dX3_init_1 : decode cX3_init 1 = .ok (.invokespecial 3, 3) := by decide +kernel
theorem dX3_init_4 : decode cX3_init 4 = .ok (.aload_n 0, 1) := by decide +kernel
theorem dX3_init_5 : decode cX3_init 5 = .ok (.bipush 42, 2) := by decide +kernel
theorem dX3_init_7 : decode cX3_init 7 = .ok (.newarray .int, 2) := by decide +kernel
theorem dX3_init_9 : decode cX3_init 9 = .ok (.putfield 9, 3) := by decide +kernel
theorem dX3_init_12 : decode cX3_init 12 = .ok (.return_, 1) := by decide +kernel
theorem dX3_at_0 : decode cX3_at 0 = .ok (.iload_n 1, 1) := by decide +kernel
theorem dX3_at_1 : decode cX3_at 1 = .ok (.ifCond .lt 18, 3) := by decide +kernel
theorem dX3_at_4 : decode cX3_at 4 = .ok (.iload_n 1, 1) := by decide +kernel
theorem dX3_at_5 : decode cX3_at 5 = .ok (.bipush 42, 2) := by decide +kernel
theorem dX3_at_7 : decode cX3_at 7 = .ok (.if_icmp .ge 12, 3) := by decide +kernel
theorem dX3_at_10 : decode cX3_at 10 = .ok (.aload_n 0, 1) := by decide +kernel
theorem dX3_at_11 : decode cX3_at 11 = .ok (.getfield 9, 3) := by decide +kernel
theorem dX3_at_14 : decode cX3_at 14 = .ok (.iload_n 1, 1) := by decide +kernel
theorem dX3_at_15 : decode cX3_at 15 = .ok (.iaload, 1) := by decide +kernel
theorem dX3_at_16 : decode cX3_at 16 = .ok (.goto 4, 3) := by decide +kernel
theorem dX3_at_19 : decode cX3_at 19 = .ok (.iconst 0, 1) := by decide +kernel
theorem dX3_at_20 : decode cX3_at 20 = .ok (.ireturn, 1) := by decide +kernel
theorem dX3_set_0 : decode cX3_set 0 = .ok (.iload_n 1, 1) := by decide +kernel
theorem dX3_set_1 : decode cX3_set 1 = .ok (.ifCond .lt 16, 3) := by decide +kernel
theorem dX3_set_4 : decode cX3_set 4 = .ok (.iload_n 1, 1) := by decide +kernel
theorem dX3_set_5 : decode cX3_set 5 = .ok (.bipush 42, 2) := by decide +kernel
theorem dX3_set_7 : decode cX3_set 7 = .ok (.if_icmp .ge 10, 3) := by decide +kernel
theorem dX3_set_10 : decode cX3_set 10 = .ok (.aload_n 0, 1) := by decide +kernel
theorem dX3_set_11 : decode cX3_set 11 = .ok (.getfield 9, 3) := by decide +kernel
theorem dX3_set_14 : decode cX3_set 14 = .ok (.iload_n 1, 1) := by decide +kernel
theorem dX3_set_15 : decode cX3_set 15 = .ok (.iload_n 2, 1) := by decide +kernel
theorem dX3_set_16 : decode cX3_set 16 = .ok (.iastore, 1) := by decide +kernel
theorem dX3_set_17 : decode cX3_set 17 = .ok (.return_, 1) := by decide +kernel
theorem dX3_top_0 : decode cX3_top 0 = .ok (.bipush 41, 2) := by decide +kernel
theorem dX3_top_2 : decode cX3_top 2 = .ok (.istore_n 1, 1) := by decide +kernel
theorem dX3_top_3 : decode cX3_top 3 = .ok (.iload_n 1, 1) := by decide +kernel
theorem dX3_top_4 : decode cX3_top 4 = .ok (.ifCond .lt 18, 3) := by decide +kernel
theorem dX3_top_7 : decode cX3_top 7 = .ok (.aload_n 0, 1) := by decide +kernel
theorem dX3_top_8 : decode cX3_top 8 = .ok (.getfield 9, 3) := by decide +kernel
theorem dX3_top_11 : decode cX3_top 11 = .ok (.iload_n 1, 1) := by decide +kernel
theorem dX3_top_12 : decode cX3_top 12 = .ok (.iaload, 1) := by decide +kernel
theorem dX3_top_13 : decode cX3_top 13 = .ok (.ifCond .ne 9, 3) := by decide +kernel
theorem dX3_top_16 : decode cX3_top 16 = .ok (.iinc 1 (-1), 3) := by decide +kernel
theorem dX3_top_19 : decode cX3_top 19 = .ok (.goto (-16), 3) := by decide +kernel
theorem dX3_top_22 : decode cX3_top 22 = .ok (.iload_n 1, 1) := by decide +kernel
theorem dX3_top_23 : decode cX3_top 23 = .ok (.ireturn, 1) := by decide +kernel
theorem dX3_lowestTerm_0 : decode cX3_lowestTerm 0 = .ok (.iconst 0, 1) := by decide +kernel
theorem dX3_lowestTerm_1 : decode cX3_lowestTerm 1 = .ok (.istore_n 1, 1) := by decide +kernel
theorem dX3_lowestTerm_2 : decode cX3_lowestTerm 2 = .ok (.iload_n 1, 1) := by decide +kernel
theorem dX3_lowestTerm_3 : decode cX3_lowestTerm 3 = .ok (.bipush 42, 2) := by decide +kernel
theorem dX3_lowestTerm_5 : decode cX3_lowestTerm 5 = .ok (.if_icmp .ge 25, 3) := by decide +kernel
theorem dX3_lowestTerm_8 : decode cX3_lowestTerm 8 = .ok (.aload_n 0, 1) := by decide +kernel
theorem dX3_lowestTerm_9 : decode cX3_lowestTerm 9 = .ok (.getfield 9, 3) := by decide +kernel
theorem dX3_lowestTerm_12 : decode cX3_lowestTerm 12 = .ok (.iload_n 1, 1) := by decide +kernel
theorem dX3_lowestTerm_13 : decode cX3_lowestTerm 13 = .ok (.iaload, 1) := by decide +kernel
theorem dX3_lowestTerm_14 : decode cX3_lowestTerm 14 = .ok (.ifCond .eq 10, 3) := by decide +kernel
theorem dX3_lowestTerm_17 : decode cX3_lowestTerm 17 = .ok (.aload_n 0, 1) := by decide +kernel
theorem dX3_lowestTerm_18 : decode cX3_lowestTerm 18 = .ok (.getfield 9, 3) := by decide +kernel
theorem dX3_lowestTerm_21 : decode cX3_lowestTerm 21 = .ok (.iload_n 1, 1) := by decide +kernel
theorem dX3_lowestTerm_22 : decode cX3_lowestTerm 22 = .ok (.iaload, 1) := by decide +kernel
theorem dX3_lowestTerm_23 : decode cX3_lowestTerm 23 = .ok (.ireturn, 1) := by decide +kernel
theorem dX3_lowestTerm_24 : decode cX3_lowestTerm 24 = .ok (.iinc 1 1, 3) := by decide +kernel
theorem dX3_lowestTerm_27 : decode cX3_lowestTerm 27 = .ok (.goto (-25), 3) := by decide +kernel
theorem dX3_lowestTerm_30 : decode cX3_lowestTerm 30 = .ok (.iconst 0, 1) := by decide +kernel
theorem dX3_lowestTerm_31 : decode cX3_lowestTerm 31 = .ok (.ireturn, 1) := by decide +kernel
theorem dX3_becomeNumber_0 : decode cX3_becomeNumber 0 = .ok (.aload_n 0, 1) := by decide +kernel
theorem dX3_becomeNumber_1 : decode cX3_becomeNumber 1 = .ok (.getfield 9, 3) := by decide +kernel
theorem dX3_becomeNumber_4 : decode cX3_becomeNumber 4 = .ok (.iconst 0, 1) := by decide +kernel
theorem dX3_becomeNumber_5 : decode cX3_becomeNumber 5 = .ok (.invokestatic 15, 3) := by decide +kernel
theorem dX3_becomeNumber_8 : decode cX3_becomeNumber 8 = .ok (.aload_n 0, 1) := by decide +kernel
theorem dX3_becomeNumber_9 : decode cX3_becomeNumber 9 = .ok (.getfield 9, 3) := by decide +kernel
theorem dX3_becomeNumber_12 : decode cX3_becomeNumber 12 = .ok (.iconst 0, 1) := by decide +kernel
theorem dX3_becomeNumber_13 : decode cX3_becomeNumber 13 = .ok (.iload_n 1, 1) := by decide +kernel
theorem dX3_becomeNumber_14 : decode cX3_becomeNumber 14 = .ok (.iastore, 1) := by decide +kernel
theorem dX3_becomeNumber_15 : decode cX3_becomeNumber 15 = .ok (.return_, 1) := by decide +kernel
theorem dX3_become_0 : decode cX3_become 0 = .ok (.aload_n 1, 1) := by decide +kernel
theorem dX3_become_1 : decode cX3_become 1 = .ok (.getfield 9, 3) := by decide +kernel
theorem dX3_become_4 : decode cX3_become 4 = .ok (.iconst 0, 1) := by decide +kernel
theorem dX3_become_5 : decode cX3_become 5 = .ok (.aload_n 0, 1) := by decide +kernel
theorem dX3_become_6 : decode cX3_become 6 = .ok (.getfield 9, 3) := by decide +kernel
theorem dX3_become_9 : decode cX3_become 9 = .ok (.iconst 0, 1) := by decide +kernel
theorem dX3_become_10 : decode cX3_become 10 = .ok (.bipush 42, 2) := by decide +kernel
theorem dX3_become_12 : decode cX3_become 12 = .ok (.invokestatic 21, 3) := by decide +kernel
theorem dX3_become_15 : decode cX3_become 15 = .ok (.return_, 1) := by decide +kernel
theorem dX3_dropLowest_0 : decode cX3_dropLowest 0 = .ok (.aload_n 0, 1) := by decide +kernel
theorem dX3_dropLowest_1 : decode cX3_dropLowest 1 = .ok (.getfield 9, 3) := by decide +kernel
theorem dX3_dropLowest_4 : decode cX3_dropLowest 4 = .ok (.iconst 1, 1) := by decide +kernel
theorem dX3_dropLowest_5 : decode cX3_dropLowest 5 = .ok (.aload_n 0, 1) := by decide +kernel
theorem dX3_dropLowest_6 : decode cX3_dropLowest 6 = .ok (.getfield 9, 3) := by decide +kernel
theorem dX3_dropLowest_9 : decode cX3_dropLowest 9 = .ok (.iconst 0, 1) := by decide +kernel
theorem dX3_dropLowest_10 : decode cX3_dropLowest 10 = .ok (.bipush 41, 2) := by decide +kernel
theorem dX3_dropLowest_12 : decode cX3_dropLowest 12 = .ok (.invokestatic 21, 3) := by decide +kernel
theorem dX3_dropLowest_15 : decode cX3_dropLowest 15 = .ok (.aload_n 0, 1) := by decide +kernel
theorem dX3_dropLowest_16 : decode cX3_dropLowest 16 = .ok (.getfield 9, 3) := by decide +kernel
theorem dX3_dropLowest_19 : decode cX3_dropLowest 19 = .ok (.bipush 41, 2) := by decide +kernel
theorem dX3_dropLowest_21 : decode cX3_dropLowest 21 = .ok (.iconst 0, 1) := by decide +kernel
theorem dX3_dropLowest_22 : decode cX3_dropLowest 22 = .ok (.iastore, 1) := by decide +kernel
theorem dX3_dropLowest_23 : decode cX3_dropLowest 23 = .ok (.return_, 1) := by decide +kernel
theorem dX3_valueAt_0 : decode cX3_valueAt 0 = .ok (.iconst 0, 1) := by decide +kernel
theorem dX3_valueAt_1 : decode cX3_valueAt 1 = .ok (.istore_n 3, 1) := by decide +kernel
theorem dX3_valueAt_2 : decode cX3_valueAt 2 = .ok (.bipush 41, 2) := by decide +kernel
theorem dX3_valueAt_4 : decode cX3_valueAt 4 = .ok (.istore 4, 2) := by decide +kernel
theorem dX3_valueAt_6 : decode cX3_valueAt 6 = .ok (.iload 4, 2) := by decide +kernel
theorem dX3_valueAt_8 : decode cX3_valueAt 8 = .ok (.ifCond .lt 28, 3) := by decide +kernel
theorem dX3_valueAt_11 : decode cX3_valueAt 11 = .ok (.aload_n 2, 1) := by decide +kernel
theorem dX3_valueAt_12 : decode cX3_valueAt 12 = .ok (.iload_n 3, 1) := by decide +kernel
theorem dX3_valueAt_13 : decode cX3_valueAt 13 = .ok (.i2l, 1) := by decide +kernel
theorem dX3_valueAt_14 : decode cX3_valueAt 14 = .ok (.iload_n 1, 1) := by decide +kernel
theorem dX3_valueAt_15 : decode cX3_valueAt 15 = .ok (.i2l, 1) := by decide +kernel
theorem dX3_valueAt_16 : decode cX3_valueAt 16 = .ok (.lmul, 1) := by decide +kernel
theorem dX3_valueAt_17 : decode cX3_valueAt 17 = .ok (.aload_n 0, 1) := by decide +kernel
theorem dX3_valueAt_18 : decode cX3_valueAt 18 = .ok (.getfield 9, 3) := by decide +kernel
theorem dX3_valueAt_21 : decode cX3_valueAt 21 = .ok (.iload 4, 2) := by decide +kernel
theorem dX3_valueAt_23 : decode cX3_valueAt 23 = .ok (.iaload, 1) := by decide +kernel
theorem dX3_valueAt_24 : decode cX3_valueAt 24 = .ok (.i2l, 1) := by decide +kernel
theorem dX3_valueAt_25 : decode cX3_valueAt 25 = .ok (.ladd, 1) := by decide +kernel
theorem dX3_valueAt_26 : decode cX3_valueAt 26 = .ok (.invokevirtual 27, 3) := by decide +kernel
theorem dX3_valueAt_29 : decode cX3_valueAt 29 = .ok (.istore_n 3, 1) := by decide +kernel
theorem dX3_valueAt_30 : decode cX3_valueAt 30 = .ok (.iinc 4 (-1), 3) := by decide +kernel
theorem dX3_valueAt_33 : decode cX3_valueAt 33 = .ok (.goto (-27), 3) := by decide +kernel
theorem dX3_valueAt_36 : decode cX3_valueAt 36 = .ok (.iload_n 3, 1) := by decide +kernel
theorem dX3_valueAt_37 : decode cX3_valueAt 37 = .ok (.ireturn, 1) := by decide +kernel
theorem dX3_scale_0 : decode cX3_scale 0 = .ok (.iconst 0, 1) := by decide +kernel
theorem dX3_scale_1 : decode cX3_scale 1 = .ok (.istore_n 3, 1) := by decide +kernel
theorem dX3_scale_2 : decode cX3_scale 2 = .ok (.iload_n 3, 1) := by decide +kernel
theorem dX3_scale_3 : decode cX3_scale 3 = .ok (.bipush 42, 2) := by decide +kernel
theorem dX3_scale_5 : decode cX3_scale 5 = .ok (.if_icmp .ge 26, 3) := by decide +kernel
theorem dX3_scale_8 : decode cX3_scale 8 = .ok (.aload_n 0, 1) := by decide +kernel
theorem dX3_scale_9 : decode cX3_scale 9 = .ok (.getfield 9, 3) := by decide +kernel
theorem dX3_scale_12 : decode cX3_scale 12 = .ok (.iload_n 3, 1) := by decide +kernel
theorem dX3_scale_13 : decode cX3_scale 13 = .ok (.aload_n 2, 1) := by decide +kernel
theorem dX3_scale_14 : decode cX3_scale 14 = .ok (.aload_n 0, 1) := by decide +kernel
theorem dX3_scale_15 : decode cX3_scale 15 = .ok (.getfield 9, 3) := by decide +kernel
theorem dX3_scale_18 : decode cX3_scale 18 = .ok (.iload_n 3, 1) := by decide +kernel
theorem dX3_scale_19 : decode cX3_scale 19 = .ok (.iaload, 1) := by decide +kernel
theorem dX3_scale_20 : decode cX3_scale 20 = .ok (.iload_n 1, 1) := by decide +kernel
theorem dX3_scale_21 : decode cX3_scale 21 = .ok (.invokevirtual 33, 3) := by decide +kernel
theorem dX3_scale_24 : decode cX3_scale 24 = .ok (.iastore, 1) := by decide +kernel
theorem dX3_scale_25 : decode cX3_scale 25 = .ok (.iinc 3 1, 3) := by decide +kernel
theorem dX3_scale_28 : decode cX3_scale 28 = .ok (.goto (-26), 3) := by decide +kernel
theorem dX3_scale_31 : decode cX3_scale 31 = .ok (.return_, 1) := by decide +kernel
theorem dX3_addMultiple_0 : decode cX3_addMultiple 0 = .ok (.iload_n 3, 1) := by decide +kernel
theorem dX3_addMultiple_1 : decode cX3_addMultiple 1 = .ok (.istore 5, 2) := by decide +kernel
theorem dX3_addMultiple_3 : decode cX3_addMultiple 3 = .ok (.iload 5, 2) := by decide +kernel
theorem dX3_addMultiple_5 : decode cX3_addMultiple 5 = .ok (.bipush 42, 2) := by decide +kernel
theorem dX3_addMultiple_7 : decode cX3_addMultiple 7 = .ok (.if_icmp .ge 40, 3) := by decide +kernel
theorem dX3_addMultiple_10 : decode cX3_addMultiple 10 = .ok (.aload_n 0, 1) := by decide +kernel
theorem dX3_addMultiple_11 : decode cX3_addMultiple 11 = .ok (.iload 5, 2) := by decide +kernel
theorem dX3_addMultiple_13 : decode cX3_addMultiple 13 = .ok (.aload 4, 2) := by decide +kernel
theorem dX3_addMultiple_15 : decode cX3_addMultiple 15 = .ok (.aload_n 0, 1) := by decide +kernel
theorem dX3_addMultiple_16 : decode cX3_addMultiple 16 = .ok (.iload 5, 2) := by decide +kernel
theorem dX3_addMultiple_18 : decode cX3_addMultiple 18 = .ok (.invokevirtual 37, 3) := by decide +kernel
theorem dX3_addMultiple_21 : decode cX3_addMultiple 21 = .ok (.i2l, 1) := by decide +kernel
theorem dX3_addMultiple_22 : decode cX3_addMultiple 22 = .ok (.iload_n 2, 1) := by decide +kernel
theorem dX3_addMultiple_23 : decode cX3_addMultiple 23 = .ok (.i2l, 1) := by decide +kernel
theorem dX3_addMultiple_24 : decode cX3_addMultiple 24 = .ok (.aload_n 1, 1) := by decide +kernel
theorem dX3_addMultiple_25 : decode cX3_addMultiple 25 = .ok (.iload 5, 2) := by decide +kernel
theorem dX3_addMultiple_27 : decode cX3_addMultiple 27 = .ok (.iload_n 3, 1) := by decide +kernel
theorem dX3_addMultiple_28 : decode cX3_addMultiple 28 = .ok (.isub, 1) := by decide +kernel
theorem dX3_addMultiple_29 : decode cX3_addMultiple 29 = .ok (.invokevirtual 37, 3) := by decide +kernel
theorem dX3_addMultiple_32 : decode cX3_addMultiple 32 = .ok (.i2l, 1) := by decide +kernel
theorem dX3_addMultiple_33 : decode cX3_addMultiple 33 = .ok (.lmul, 1) := by decide +kernel
theorem dX3_addMultiple_34 : decode cX3_addMultiple 34 = .ok (.ladd, 1) := by decide +kernel
theorem dX3_addMultiple_35 : decode cX3_addMultiple 35 = .ok (.invokevirtual 27, 3) := by decide +kernel
theorem dX3_addMultiple_38 : decode cX3_addMultiple 38 = .ok (.invokevirtual 41, 3) := by decide +kernel
theorem dX3_addMultiple_41 : decode cX3_addMultiple 41 = .ok (.iinc 5 1, 3) := by decide +kernel
theorem dX3_addMultiple_44 : decode cX3_addMultiple 44 = .ok (.goto (-41), 3) := by decide +kernel
theorem dX3_addMultiple_47 : decode cX3_addMultiple 47 = .ok (.return_, 1) := by decide +kernel
theorem dX3_subtractProduct_0 : decode cX3_subtractProduct 0 = .ok (.aload_n 1, 1) := by decide +kernel
theorem dX3_subtractProduct_1 : decode cX3_subtractProduct 1 = .ok (.invokevirtual 45, 3) := by decide +kernel
theorem dX3_subtractProduct_4 : decode cX3_subtractProduct 4 = .ok (.istore 4, 2) := by decide +kernel
theorem dX3_subtractProduct_6 : decode cX3_subtractProduct 6 = .ok (.iconst 0, 1) := by decide +kernel
theorem dX3_subtractProduct_7 : decode cX3_subtractProduct 7 = .ok (.istore 5, 2) := by decide +kernel
theorem dX3_subtractProduct_9 : decode cX3_subtractProduct 9 = .ok (.iload 5, 2) := by decide +kernel
theorem dX3_subtractProduct_11 : decode cX3_subtractProduct 11 = .ok (.iload 4, 2) := by decide +kernel
theorem dX3_subtractProduct_13 : decode cX3_subtractProduct 13 = .ok (.if_icmp .gt 27, 3) := by decide +kernel
theorem dX3_subtractProduct_16 : decode cX3_subtractProduct 16 = .ok (.aload_n 0, 1) := by decide +kernel
theorem dX3_subtractProduct_17 : decode cX3_subtractProduct 17 = .ok (.aload_n 2, 1) := by decide +kernel
theorem dX3_subtractProduct_18 : decode cX3_subtractProduct 18 = .ok (.aload_n 3, 1) := by decide +kernel
theorem dX3_subtractProduct_19 : decode cX3_subtractProduct 19 = .ok (.aload_n 1, 1) := by decide +kernel
theorem dX3_subtractProduct_20 : decode cX3_subtractProduct 20 = .ok (.iload 5, 2) := by decide +kernel
theorem dX3_subtractProduct_22 : decode cX3_subtractProduct 22 = .ok (.invokevirtual 37, 3) := by decide +kernel
theorem dX3_subtractProduct_25 : decode cX3_subtractProduct 25 = .ok (.invokevirtual 49, 3) := by decide +kernel
theorem dX3_subtractProduct_28 : decode cX3_subtractProduct 28 = .ok (.iload 5, 2) := by decide +kernel
theorem dX3_subtractProduct_30 : decode cX3_subtractProduct 30 = .ok (.aload_n 3, 1) := by decide +kernel
theorem dX3_subtractProduct_31 : decode cX3_subtractProduct 31 = .ok (.invokevirtual 52, 3) := by decide +kernel
theorem dX3_subtractProduct_34 : decode cX3_subtractProduct 34 = .ok (.iinc 5 1, 3) := by decide +kernel
theorem dX3_subtractProduct_37 : decode cX3_subtractProduct 37 = .ok (.goto (-28), 3) := by decide +kernel
theorem dX3_subtractProduct_40 : decode cX3_subtractProduct 40 = .ok (.return_, 1) := by decide +kernel
theorem dX3_addRoot_0 : decode cX3_addRoot 0 = .ok (.bipush 41, 2) := by decide +kernel
theorem dX3_addRoot_2 : decode cX3_addRoot 2 = .ok (.istore_n 3, 1) := by decide +kernel
theorem dX3_addRoot_3 : decode cX3_addRoot 3 = .ok (.iload_n 3, 1) := by decide +kernel
theorem dX3_addRoot_4 : decode cX3_addRoot 4 = .ok (.ifCond .lt 38, 3) := by decide +kernel
theorem dX3_addRoot_7 : decode cX3_addRoot 7 = .ok (.aload_n 0, 1) := by decide +kernel
theorem dX3_addRoot_8 : decode cX3_addRoot 8 = .ok (.getfield 9, 3) := by decide +kernel
theorem dX3_addRoot_11 : decode cX3_addRoot 11 = .ok (.iload_n 3, 1) := by decide +kernel
theorem dX3_addRoot_12 : decode cX3_addRoot 12 = .ok (.aload_n 2, 1) := by decide +kernel
theorem dX3_addRoot_13 : decode cX3_addRoot 13 = .ok (.aload_n 0, 1) := by decide +kernel
theorem dX3_addRoot_14 : decode cX3_addRoot 14 = .ok (.iload_n 3, 1) := by decide +kernel
theorem dX3_addRoot_15 : decode cX3_addRoot 15 = .ok (.iconst 1, 1) := by decide +kernel
theorem dX3_addRoot_16 : decode cX3_addRoot 16 = .ok (.isub, 1) := by decide +kernel
theorem dX3_addRoot_17 : decode cX3_addRoot 17 = .ok (.invokevirtual 37, 3) := by decide +kernel
theorem dX3_addRoot_20 : decode cX3_addRoot 20 = .ok (.i2l, 1) := by decide +kernel
theorem dX3_addRoot_21 : decode cX3_addRoot 21 = .ok (.iload_n 1, 1) := by decide +kernel
theorem dX3_addRoot_22 : decode cX3_addRoot 22 = .ok (.i2l, 1) := by decide +kernel
theorem dX3_addRoot_23 : decode cX3_addRoot 23 = .ok (.aload_n 0, 1) := by decide +kernel
theorem dX3_addRoot_24 : decode cX3_addRoot 24 = .ok (.getfield 9, 3) := by decide +kernel
theorem dX3_addRoot_27 : decode cX3_addRoot 27 = .ok (.iload_n 3, 1) := by decide +kernel
theorem dX3_addRoot_28 : decode cX3_addRoot 28 = .ok (.iaload, 1) := by decide +kernel
theorem dX3_addRoot_29 : decode cX3_addRoot 29 = .ok (.i2l, 1) := by decide +kernel
theorem dX3_addRoot_30 : decode cX3_addRoot 30 = .ok (.lmul, 1) := by decide +kernel
theorem dX3_addRoot_31 : decode cX3_addRoot 31 = .ok (.lsub, 1) := by decide +kernel
theorem dX3_addRoot_32 : decode cX3_addRoot 32 = .ok (.invokevirtual 27, 3) := by decide +kernel
theorem dX3_addRoot_35 : decode cX3_addRoot 35 = .ok (.iastore, 1) := by decide +kernel
theorem dX3_addRoot_36 : decode cX3_addRoot 36 = .ok (.iinc 3 (-1), 3) := by decide +kernel
theorem dX3_addRoot_39 : decode cX3_addRoot 39 = .ok (.goto (-36), 3) := by decide +kernel
theorem dX3_addRoot_42 : decode cX3_addRoot 42 = .ok (.return_, 1) := by decide +kernel
theorem dX3_divide_0 : decode cX3_divide 0 = .ok (.aload_n 2, 1) := by decide +kernel
theorem dX3_divide_1 : decode cX3_divide 1 = .ok (.iconst 0, 1) := by decide +kernel
theorem dX3_divide_2 : decode cX3_divide 2 = .ok (.invokevirtual 56, 3) := by decide +kernel
theorem dX3_divide_5 : decode cX3_divide 5 = .ok (.aload_n 1, 1) := by decide +kernel
theorem dX3_divide_6 : decode cX3_divide 6 = .ok (.invokevirtual 45, 3) := by decide +kernel
theorem dX3_divide_9 : decode cX3_divide 9 = .ok (.istore 4, 2) := by decide +kernel
theorem dX3_divide_11 : decode cX3_divide 11 = .ok (.iload 4, 2) := by decide +kernel
theorem dX3_divide_13 : decode cX3_divide 13 = .ok (.ifCond .ge 4, 3) := by decide +kernel
theorem dX3_divide_16 : decode cX3_divide 16 = .ok (.return_, 1) := by decide +kernel
theorem dX3_divide_17 : decode cX3_divide 17 = .ok (.aload_n 3, 1) := by decide +kernel
theorem dX3_divide_18 : decode cX3_divide 18 = .ok (.aload_n 1, 1) := by decide +kernel
theorem dX3_divide_19 : decode cX3_divide 19 = .ok (.iload 4, 2) := by decide +kernel
theorem dX3_divide_21 : decode cX3_divide 21 = .ok (.invokevirtual 37, 3) := by decide +kernel
theorem dX3_divide_24 : decode cX3_divide 24 = .ok (.invokevirtual 60, 3) := by decide +kernel
theorem dX3_divide_27 : decode cX3_divide 27 = .ok (.istore 5, 2) := by decide +kernel
theorem dX3_divide_29 : decode cX3_divide 29 = .ok (.aload_n 0, 1) := by decide +kernel
theorem dX3_divide_30 : decode cX3_divide 30 = .ok (.invokevirtual 45, 3) := by decide +kernel
theorem dX3_divide_33 : decode cX3_divide 33 = .ok (.istore 6, 2) := by decide +kernel
theorem dX3_divide_35 : decode cX3_divide 35 = .ok (.iload 6, 2) := by decide +kernel
theorem dX3_divide_37 : decode cX3_divide 37 = .ok (.iload 4, 2) := by decide +kernel
theorem dX3_divide_39 : decode cX3_divide 39 = .ok (.if_icmp .lt 51, 3) := by decide +kernel
theorem dX3_divide_42 : decode cX3_divide 42 = .ok (.aload_n 3, 1) := by decide +kernel
theorem dX3_divide_43 : decode cX3_divide 43 = .ok (.aload_n 0, 1) := by decide +kernel
theorem dX3_divide_44 : decode cX3_divide 44 = .ok (.iload 6, 2) := by decide +kernel
theorem dX3_divide_46 : decode cX3_divide 46 = .ok (.invokevirtual 37, 3) := by decide +kernel
theorem dX3_divide_49 : decode cX3_divide 49 = .ok (.iload 5, 2) := by decide +kernel
theorem dX3_divide_51 : decode cX3_divide 51 = .ok (.invokevirtual 33, 3) := by decide +kernel
theorem dX3_divide_54 : decode cX3_divide 54 = .ok (.istore 7, 2) := by decide +kernel
theorem dX3_divide_56 : decode cX3_divide 56 = .ok (.aload_n 2, 1) := by decide +kernel
theorem dX3_divide_57 : decode cX3_divide 57 = .ok (.iload 6, 2) := by decide +kernel
theorem dX3_divide_59 : decode cX3_divide 59 = .ok (.iload 4, 2) := by decide +kernel
theorem dX3_divide_61 : decode cX3_divide 61 = .ok (.isub, 1) := by decide +kernel
theorem dX3_divide_62 : decode cX3_divide 62 = .ok (.iload 7, 2) := by decide +kernel
theorem dX3_divide_64 : decode cX3_divide 64 = .ok (.invokevirtual 41, 3) := by decide +kernel
theorem dX3_divide_67 : decode cX3_divide 67 = .ok (.aload_n 0, 1) := by decide +kernel
theorem dX3_divide_68 : decode cX3_divide 68 = .ok (.aload_n 1, 1) := by decide +kernel
theorem dX3_divide_69 : decode cX3_divide 69 = .ok (.aload_n 3, 1) := by decide +kernel
theorem dX3_divide_70 : decode cX3_divide 70 = .ok (.iload 7, 2) := by decide +kernel
theorem dX3_divide_72 : decode cX3_divide 72 = .ok (.invokevirtual 49, 3) := by decide +kernel
theorem dX3_divide_75 : decode cX3_divide 75 = .ok (.iload 6, 2) := by decide +kernel
theorem dX3_divide_77 : decode cX3_divide 77 = .ok (.iload 4, 2) := by decide +kernel
theorem dX3_divide_79 : decode cX3_divide 79 = .ok (.isub, 1) := by decide +kernel
theorem dX3_divide_80 : decode cX3_divide 80 = .ok (.aload_n 3, 1) := by decide +kernel
theorem dX3_divide_81 : decode cX3_divide 81 = .ok (.invokevirtual 52, 3) := by decide +kernel
theorem dX3_divide_84 : decode cX3_divide 84 = .ok (.iinc 6 (-1), 3) := by decide +kernel
theorem dX3_divide_87 : decode cX3_divide 87 = .ok (.goto (-52), 3) := by decide +kernel
theorem dX3_divide_90 : decode cX3_divide 90 = .ok (.return_, 1) := by decide +kernel
theorem dX3_mixedInto_0 : decode cX3_mixedInto 0 = .ok (.lload_n 1, 1) := by decide +kernel
theorem dX3_mixedInto_1 : decode cX3_mixedInto 1 = .ok (.lstore 4, 2) := by decide +kernel
theorem dX3_mixedInto_3 : decode cX3_mixedInto 3 = .ok (.iconst 0, 1) := by decide +kernel
theorem dX3_mixedInto_4 : decode cX3_mixedInto 4 = .ok (.istore 6, 2) := by decide +kernel
theorem dX3_mixedInto_6 : decode cX3_mixedInto 6 = .ok (.iload 6, 2) := by decide +kernel
theorem dX3_mixedInto_8 : decode cX3_mixedInto 8 = .ok (.iload_n 3, 1) := by decide +kernel
theorem dX3_mixedInto_9 : decode cX3_mixedInto 9 = .ok (.if_icmp .gt 23, 3) := by decide +kernel
theorem dX3_mixedInto_12 : decode cX3_mixedInto 12 = .ok (.lload 4, 2) := by decide +kernel
theorem dX3_mixedInto_14 : decode cX3_mixedInto 14 = .ok (.aload_n 0, 1) := by decide +kernel
theorem dX3_mixedInto_15 : decode cX3_mixedInto 15 = .ok (.iload 6, 2) := by decide +kernel
theorem dX3_mixedInto_17 : decode cX3_mixedInto 17 = .ok (.invokevirtual 37, 3) := by decide +kernel
theorem dX3_mixedInto_20 : decode cX3_mixedInto 20 = .ok (.i2l, 1) := by decide +kernel
theorem dX3_mixedInto_21 : decode cX3_mixedInto 21 = .ok (.invokestatic 63, 3) := by decide +kernel
theorem dX3_mixedInto_24 : decode cX3_mixedInto 24 = .ok (.lstore 4, 2) := by decide +kernel
theorem dX3_mixedInto_26 : decode cX3_mixedInto 26 = .ok (.iinc 6 1, 3) := by decide +kernel
theorem dX3_mixedInto_29 : decode cX3_mixedInto 29 = .ok (.goto (-23), 3) := by decide +kernel
theorem dX3_mixedInto_32 : decode cX3_mixedInto 32 = .ok (.lload 4, 2) := by decide +kernel
theorem dX3_mixedInto_34 : decode cX3_mixedInto 34 = .ok (.lreturn, 1) := by decide +kernel
theorem dX4_init_0 : decode cX4_init 0 = .ok (.aload_n 0, 1) := by decide +kernel
theorem dX4_init_1 : decode cX4_init 1 = .ok (.invokespecial 1, 3) := by decide +kernel
theorem dX4_init_4 : decode cX4_init 4 = .ok (.aload_n 0, 1) := by decide +kernel
theorem dX4_init_5 : decode cX4_init 5 = .ok (.new 7, 3) := by decide +kernel
theorem dX4_init_8 : decode cX4_init 8 = .ok (.dup, 1) := by decide +kernel
theorem dX4_init_9 : decode cX4_init 9 = .ok (.invokespecial 9, 3) := by decide +kernel
theorem dX4_init_12 : decode cX4_init 12 = .ok (.putfield 10, 3) := by decide +kernel
theorem dX4_init_15 : decode cX4_init 15 = .ok (.aload_n 0, 1) := by decide +kernel
theorem dX4_init_16 : decode cX4_init 16 = .ok (.new 7, 3) := by decide +kernel
theorem dX4_init_19 : decode cX4_init 19 = .ok (.dup, 1) := by decide +kernel
theorem dX4_init_20 : decode cX4_init 20 = .ok (.invokespecial 9, 3) := by decide +kernel
theorem dX4_init_23 : decode cX4_init 23 = .ok (.putfield 16, 3) := by decide +kernel
theorem dX4_init_26 : decode cX4_init 26 = .ok (.aload_n 0, 1) := by decide +kernel
theorem dX4_init_27 : decode cX4_init 27 = .ok (.new 7, 3) := by decide +kernel
theorem dX4_init_30 : decode cX4_init 30 = .ok (.dup, 1) := by decide +kernel
theorem dX4_init_31 : decode cX4_init 31 = .ok (.invokespecial 9, 3) := by decide +kernel
theorem dX4_init_34 : decode cX4_init 34 = .ok (.putfield 19, 3) := by decide +kernel
theorem dX4_init_37 : decode cX4_init 37 = .ok (.return_, 1) := by decide +kernel
