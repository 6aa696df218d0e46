theorem dX9_times_0 : decode cX9_times 0 = .ok (.aload_n 0, 1) := by decide +kernel
theorem dX9_times_1 : decode cX9_times 1 = .ok (.iload_n 1, 1) := by decide +kernel
theorem dX9_times_2 : decode cX9_times 2 = .ok (.invokevirtual 170, 3) := by decide +kernel
theorem dX9_times_5 : decode cX9_times 5 = .ok (.astore_n 3, 1) := by decide +kernel
theorem dX9_times_6 : decode cX9_times 6 = .ok (.aload_n 0, 1) := by decide +kernel
theorem dX9_times_7 : decode cX9_times 7 = .ok (.iload_n 2, 1) := by decide +kernel
theorem dX9_times_8 : decode cX9_times 8 = .ok (.invokevirtual 170, 3) := by decide +kernel
theorem dX9_times_11 : decode cX9_times 11 = .ok (.astore 4, 2) := by decide +kernel
theorem dX9_times_13 : decode cX9_times 13 = .ok (.aload_n 3, 1) := by decide +kernel
theorem dX9_times_14 : decode cX9_times 14 = .ok (.ifnull 8, 3) := by decide +kernel
theorem dX9_times_17 : decode cX9_times 17 = .ok (.aload 4, 2) := by decide +kernel
theorem dX9_times_19 : decode cX9_times 19 = .ok (.ifnonnull 6, 3) := by decide +kernel
theorem dX9_times_22 : decode cX9_times 22 = .ok (.bipush (-101), 2) := by decide +kernel
theorem dX9_times_24 : decode cX9_times 24 = .ok (.ireturn, 1) := by decide +kernel
theorem dX9_times_25 : decode cX9_times 25 = .ok (.aload_n 0, 1) := by decide +kernel
theorem dX9_times_26 : decode cX9_times 26 = .ok (.aload_n 3, 1) := by decide +kernel
theorem dX9_times_27 : decode cX9_times 27 = .ok (.getfield 173, 3) := by decide +kernel
theorem dX9_times_30 : decode cX9_times 30 = .ok (.aload 4, 2) := by decide +kernel
theorem dX9_times_32 : decode cX9_times 32 = .ok (.getfield 173, 3) := by decide +kernel
theorem dX9_times_35 : decode cX9_times 35 = .ok (.invokestatic 176, 3) := by decide +kernel
theorem dX9_times_38 : decode cX9_times 38 = .ok (.invokevirtual 145, 3) := by decide +kernel
theorem dX9_times_41 : decode cX9_times 41 = .ok (.astore 5, 2) := by decide +kernel
theorem dX9_times_43 : decode cX9_times 43 = .ok (.aload 5, 2) := by decide +kernel
theorem dX9_times_45 : decode cX9_times 45 = .ok (.ifnonnull 6, 3) := by decide +kernel
theorem dX9_times_48 : decode cX9_times 48 = .ok (.bipush (-104), 2) := by decide +kernel
theorem dX9_times_50 : decode cX9_times 50 = .ok (.ireturn, 1) := by decide +kernel
theorem dX9_times_51 : decode cX9_times 51 = .ok (.iconst 0, 1) := by decide +kernel
theorem dX9_times_52 : decode cX9_times 52 = .ok (.istore 6, 2) := by decide +kernel
theorem dX9_times_54 : decode cX9_times 54 = .ok (.iload 6, 2) := by decide +kernel
theorem dX9_times_56 : decode cX9_times 56 = .ok (.aload 5, 2) := by decide +kernel
theorem dX9_times_58 : decode cX9_times 58 = .ok (.getfield 173, 3) := by decide +kernel
theorem dX9_times_61 : decode cX9_times 61 = .ok (.if_icmp .gt 77, 3) := by decide +kernel
theorem dX9_times_64 : decode cX9_times 64 = .ok (.lconst 0, 1) := by decide +kernel
theorem dX9_times_65 : decode cX9_times 65 = .ok (.lstore 7, 2) := by decide +kernel
theorem dX9_times_67 : decode cX9_times 67 = .ok (.iconst 0, 1) := by decide +kernel
theorem dX9_times_68 : decode cX9_times 68 = .ok (.istore 9, 2) := by decide +kernel
theorem dX9_times_70 : decode cX9_times 70 = .ok (.iload 9, 2) := by decide +kernel
theorem dX9_times_72 : decode cX9_times 72 = .ok (.iload 6, 2) := by decide +kernel
theorem dX9_times_74 : decode cX9_times 74 = .ok (.if_icmp .gt 39, 3) := by decide +kernel
theorem dX9_times_77 : decode cX9_times 77 = .ok (.lload 7, 2) := by decide +kernel
theorem dX9_times_79 : decode cX9_times 79 = .ok (.aload_n 3, 1) := by decide +kernel
theorem dX9_times_80 : decode cX9_times 80 = .ok (.getfield 149, 3) := by decide +kernel
theorem dX9_times_83 : decode cX9_times 83 = .ok (.iload 9, 2) := by decide +kernel
theorem dX9_times_85 : decode cX9_times 85 = .ok (.invokevirtual 186, 3) := by decide +kernel
theorem dX9_times_88 : decode cX9_times 88 = .ok (.i2l, 1) := by decide +kernel
theorem dX9_times_89 : decode cX9_times 89 = .ok (.aload 4, 2) := by decide +kernel
theorem dX9_times_91 : decode cX9_times 91 = .ok (.getfield 149, 3) := by decide +kernel
theorem dX9_times_94 : decode cX9_times 94 = .ok (.iload 6, 2) := by decide +kernel
theorem dX9_times_96 : decode cX9_times 96 = .ok (.iload 9, 2) := by decide +kernel
theorem dX9_times_98 : decode cX9_times 98 = .ok (.isub, 1) := by decide +kernel
theorem dX9_times_99 : decode cX9_times 99 = .ok (.invokevirtual 186, 3) := by decide +kernel
theorem dX9_times_102 : decode cX9_times 102 = .ok (.i2l, 1) := by decide +kernel
theorem dX9_times_103 : decode cX9_times 103 = .ok (.lmul, 1) := by decide +kernel
theorem dX9_times_104 : decode cX9_times 104 = .ok (.ladd, 1) := by decide +kernel
theorem dX9_times_105 : decode cX9_times 105 = .ok (.lstore 7, 2) := by decide +kernel
theorem dX9_times_107 : decode cX9_times 107 = .ok (.iinc 9 1, 3) := by decide +kernel
theorem dX9_times_110 : decode cX9_times 110 = .ok (.goto (-40), 3) := by decide +kernel
theorem dX9_times_113 : decode cX9_times 113 = .ok (.aload 5, 2) := by decide +kernel
theorem dX9_times_115 : decode cX9_times 115 = .ok (.getfield 149, 3) := by decide +kernel
theorem dX9_times_118 : decode cX9_times 118 = .ok (.iload 6, 2) := by decide +kernel
theorem dX9_times_120 : decode cX9_times 120 = .ok (.aload_n 0, 1) := by decide +kernel
theorem dX9_times_121 : decode cX9_times 121 = .ok (.getfield 12, 3) := by decide +kernel
theorem dX9_times_124 : decode cX9_times 124 = .ok (.lload 7, 2) := by decide +kernel
theorem dX9_times_126 : decode cX9_times 126 = .ok (.invokevirtual 182, 3) := by decide +kernel
theorem dX9_times_129 : decode cX9_times 129 = .ok (.invokevirtual 189, 3) := by decide +kernel
theorem dX9_times_132 : decode cX9_times 132 = .ok (.iinc 6 1, 3) := by decide +kernel
theorem dX9_times_135 : decode cX9_times 135 = .ok (.goto (-81), 3) := by decide +kernel
theorem dX9_times_138 : decode cX9_times 138 = .ok (.aload_n 0, 1) := by decide +kernel
theorem dX9_times_139 : decode cX9_times 139 = .ok (.invokevirtual 156, 3) := by decide +kernel
theorem dX9_times_142 : decode cX9_times 142 = .ok (.ireturn, 1) := by decide +kernel
theorem dX9_under_0 : decode cX9_under 0 = .ok (.aload_n 0, 1) := by decide +kernel
theorem dX9_under_1 : decode cX9_under 1 = .ok (.iload_n 1, 1) := by decide +kernel
theorem dX9_under_2 : decode cX9_under 2 = .ok (.invokevirtual 170, 3) := by decide +kernel
theorem dX9_under_5 : decode cX9_under 5 = .ok (.astore_n 2, 1) := by decide +kernel
theorem dX9_under_6 : decode cX9_under 6 = .ok (.aload_n 2, 1) := by decide +kernel
theorem dX9_under_7 : decode cX9_under 7 = .ok (.ifnonnull 6, 3) := by decide +kernel
theorem dX9_under_10 : decode cX9_under 10 = .ok (.bipush (-101), 2) := by decide +kernel
theorem dX9_under_12 : decode cX9_under 12 = .ok (.ireturn, 1) := by decide +kernel
theorem dX9_under_13 : decode cX9_under 13 = .ok (.aload_n 0, 1) := by decide +kernel
theorem dX9_under_14 : decode cX9_under 14 = .ok (.getfield 46, 3) := by decide +kernel
theorem dX9_under_17 : decode cX9_under 17 = .ok (.getfield 160, 3) := by decide +kernel
theorem dX9_under_20 : decode cX9_under 20 = .ok (.iconst 1, 1) := by decide +kernel
theorem dX9_under_21 : decode cX9_under 21 = .ok (.invokevirtual 192, 3) := by decide +kernel
theorem dX9_under_24 : decode cX9_under 24 = .ok (.aload_n 0, 1) := by decide +kernel
theorem dX9_under_25 : decode cX9_under 25 = .ok (.getfield 46, 3) := by decide +kernel
theorem dX9_under_28 : decode cX9_under 28 = .ok (.getfield 163, 3) := by decide +kernel
theorem dX9_under_31 : decode cX9_under 31 = .ok (.aload_n 2, 1) := by decide +kernel
theorem dX9_under_32 : decode cX9_under 32 = .ok (.getfield 149, 3) := by decide +kernel
theorem dX9_under_35 : decode cX9_under 35 = .ok (.invokevirtual 196, 3) := by decide +kernel
theorem dX9_under_38 : decode cX9_under 38 = .ok (.aload_n 0, 1) := by decide +kernel
theorem dX9_under_39 : decode cX9_under 39 = .ok (.aload_n 0, 1) := by decide +kernel
theorem dX9_under_40 : decode cX9_under 40 = .ok (.getfield 46, 3) := by decide +kernel
theorem dX9_under_43 : decode cX9_under 43 = .ok (.aload_n 2, 1) := by decide +kernel
theorem dX9_under_44 : decode cX9_under 44 = .ok (.getfield 173, 3) := by decide +kernel
theorem dX9_under_47 : decode cX9_under 47 = .ok (.invokevirtual 166, 3) := by decide +kernel
theorem dX9_under_50 : decode cX9_under 50 = .ok (.ireturn, 1) := by decide +kernel
theorem dX9_moved_0 : decode cX9_moved 0 = .ok (.aload_n 0, 1) := by decide +kernel
theorem dX9_moved_1 : decode cX9_moved 1 = .ok (.iload_n 1, 1) := by decide +kernel
theorem dX9_moved_2 : decode cX9_moved 2 = .ok (.invokevirtual 170, 3) := by decide +kernel
theorem dX9_moved_5 : decode cX9_moved 5 = .ok (.astore 4, 2) := by decide +kernel
theorem dX9_moved_7 : decode cX9_moved 7 = .ok (.aload 4, 2) := by decide +kernel
theorem dX9_moved_9 : decode cX9_moved 9 = .ok (.ifnonnull 6, 3) := by decide +kernel
theorem dX9_moved_12 : decode cX9_moved 12 = .ok (.bipush (-101), 2) := by decide +kernel
theorem dX9_moved_14 : decode cX9_moved 14 = .ok (.ireturn, 1) := by decide +kernel
theorem dX9_moved_15 : decode cX9_moved 15 = .ok (.iload_n 3, 1) := by decide +kernel
theorem dX9_moved_16 : decode cX9_moved 16 = .ok (.invokestatic 142, 3) := by decide +kernel
theorem dX9_moved_19 : decode cX9_moved 19 = .ok (.ifCond .ne 6, 3) := by decide +kernel
theorem dX9_moved_22 : decode cX9_moved 22 = .ok (.bipush (-102), 2) := by decide +kernel
theorem dX9_moved_24 : decode cX9_moved 24 = .ok (.ireturn, 1) := by decide +kernel
theorem dX9_moved_25 : decode cX9_moved 25 = .ok (.aload_n 0, 1) := by decide +kernel
theorem dX9_moved_26 : decode cX9_moved 26 = .ok (.aload 4, 2) := by decide +kernel
theorem dX9_moved_28 : decode cX9_moved 28 = .ok (.getfield 173, 3) := by decide +kernel
theorem dX9_moved_31 : decode cX9_moved 31 = .ok (.invokevirtual 145, 3) := by decide +kernel
theorem dX9_moved_34 : decode cX9_moved 34 = .ok (.astore 5, 2) := by decide +kernel
theorem dX9_moved_36 : decode cX9_moved 36 = .ok (.aload 5, 2) := by decide +kernel
theorem dX9_moved_38 : decode cX9_moved 38 = .ok (.ifnonnull 6, 3) := by decide +kernel
theorem dX9_moved_41 : decode cX9_moved 41 = .ok (.bipush (-104), 2) := by decide +kernel
theorem dX9_moved_43 : decode cX9_moved 43 = .ok (.ireturn, 1) := by decide +kernel
theorem dX9_moved_44 : decode cX9_moved 44 = .ok (.aload_n 0, 1) := by decide +kernel
theorem dX9_moved_45 : decode cX9_moved 45 = .ok (.getfield 12, 3) := by decide +kernel
theorem dX9_moved_48 : decode cX9_moved 48 = .ok (.iload_n 2, 1) := by decide +kernel
theorem dX9_moved_49 : decode cX9_moved 49 = .ok (.i2l, 1) := by decide +kernel
theorem dX9_moved_50 : decode cX9_moved 50 = .ok (.invokevirtual 182, 3) := by decide +kernel
theorem dX9_moved_53 : decode cX9_moved 53 = .ok (.istore 6, 2) := by decide +kernel
theorem dX9_moved_55 : decode cX9_moved 55 = .ok (.iconst 1, 1) := by decide +kernel
theorem dX9_moved_56 : decode cX9_moved 56 = .ok (.istore 7, 2) := by decide +kernel
theorem dX9_moved_58 : decode cX9_moved 58 = .ok (.iconst 0, 1) := by decide +kernel
theorem dX9_moved_59 : decode cX9_moved 59 = .ok (.istore 8, 2) := by decide +kernel
theorem dX9_moved_61 : decode cX9_moved 61 = .ok (.iload 8, 2) := by decide +kernel
theorem dX9_moved_63 : decode cX9_moved 63 = .ok (.iload_n 3, 1) := by decide +kernel
theorem dX9_moved_64 : decode cX9_moved 64 = .ok (.iadd, 1) := by decide +kernel
theorem dX9_moved_65 : decode cX9_moved 65 = .ok (.aload 5, 2) := by decide +kernel
theorem dX9_moved_67 : decode cX9_moved 67 = .ok (.getfield 173, 3) := by decide +kernel
theorem dX9_moved_70 : decode cX9_moved 70 = .ok (.if_icmp .gt 53, 3) := by decide +kernel
theorem dX9_moved_73 : decode cX9_moved 73 = .ok (.aload 5, 2) := by decide +kernel
theorem dX9_moved_75 : decode cX9_moved 75 = .ok (.getfield 149, 3) := by decide +kernel
theorem dX9_moved_78 : decode cX9_moved 78 = .ok (.iload 8, 2) := by decide +kernel
theorem dX9_moved_80 : decode cX9_moved 80 = .ok (.iload_n 3, 1) := by decide +kernel
theorem dX9_moved_81 : decode cX9_moved 81 = .ok (.iadd, 1) := by decide +kernel
theorem dX9_moved_82 : decode cX9_moved 82 = .ok (.aload_n 0, 1) := by decide +kernel
theorem dX9_moved_83 : decode cX9_moved 83 = .ok (.getfield 12, 3) := by decide +kernel
theorem dX9_moved_86 : decode cX9_moved 86 = .ok (.iload 7, 2) := by decide +kernel
theorem dX9_moved_88 : decode cX9_moved 88 = .ok (.aload 4, 2) := by decide +kernel
theorem dX9_moved_90 : decode cX9_moved 90 = .ok (.getfield 149, 3) := by decide +kernel
theorem dX9_moved_93 : decode cX9_moved 93 = .ok (.iload 8, 2) := by decide +kernel
theorem dX9_moved_95 : decode cX9_moved 95 = .ok (.invokevirtual 186, 3) := by decide +kernel
theorem dX9_moved_98 : decode cX9_moved 98 = .ok (.invokevirtual 200, 3) := by decide +kernel
theorem dX9_moved_101 : decode cX9_moved 101 = .ok (.invokevirtual 189, 3) := by decide +kernel
theorem dX9_moved_104 : decode cX9_moved 104 = .ok (.aload_n 0, 1) := by decide +kernel
theorem dX9_moved_105 : decode cX9_moved 105 = .ok (.getfield 12, 3) := by decide +kernel
theorem dX9_moved_108 : decode cX9_moved 108 = .ok (.iload 7, 2) := by decide +kernel
theorem dX9_moved_110 : decode cX9_moved 110 = .ok (.iload 6, 2) := by decide +kernel
theorem dX9_moved_112 : decode cX9_moved 112 = .ok (.invokevirtual 200, 3) := by decide +kernel
theorem dX9_moved_115 : decode cX9_moved 115 = .ok (.istore 7, 2) := by decide +kernel
theorem dX9_moved_117 : decode cX9_moved 117 = .ok (.iinc 8 1, 3) := by decide +kernel
theorem dX9_moved_120 : decode cX9_moved 120 = .ok (.goto (-59), 3) := by decide +kernel
theorem dX9_moved_123 : decode cX9_moved 123 = .ok (.aload_n 0, 1) := by decide +kernel
theorem dX9_moved_124 : decode cX9_moved 124 = .ok (.invokevirtual 156, 3) := by decide +kernel
theorem dX9_moved_127 : decode cX9_moved 127 = .ok (.ireturn, 1) := by decide +kernel
theorem dX9_number_0 : decode cX9_number 0 = .ok (.aload_n 0, 1) := by decide +kernel
theorem dX9_number_1 : decode cX9_number 1 = .ok (.iload_n 1, 1) := by decide +kernel
theorem dX9_number_2 : decode cX9_number 2 = .ok (.invokevirtual 170, 3) := by decide +kernel
theorem dX9_number_5 : decode cX9_number 5 = .ok (.astore_n 3, 1) := by decide +kernel
theorem dX9_number_6 : decode cX9_number 6 = .ok (.aload_n 3, 1) := by decide +kernel
theorem dX9_number_7 : decode cX9_number 7 = .ok (.ifnonnull 6, 3) := by decide +kernel
theorem dX9_number_10 : decode cX9_number 10 = .ok (.bipush (-101), 2) := by decide +kernel
theorem dX9_number_12 : decode cX9_number 12 = .ok (.ireturn, 1) := by decide +kernel
theorem dX9_number_13 : decode cX9_number 13 = .ok (.iload_n 2, 1) := by decide +kernel
theorem dX9_number_14 : decode cX9_number 14 = .ok (.ifCond .lt 22, 3) := by decide +kernel
theorem dX9_number_17 : decode cX9_number 17 = .ok (.iload_n 2, 1) := by decide +kernel
theorem dX9_number_18 : decode cX9_number 18 = .ok (.aload_n 3, 1) := by decide +kernel
theorem dX9_number_19 : decode cX9_number 19 = .ok (.getfield 173, 3) := by decide +kernel
theorem dX9_number_22 : decode cX9_number 22 = .ok (.if_icmp .gt 14, 3) := by decide +kernel
theorem dX9_number_25 : decode cX9_number 25 = .ok (.aload_n 3, 1) := by decide +kernel
theorem dX9_number_26 : decode cX9_number 26 = .ok (.getfield 149, 3) := by decide +kernel
theorem dX9_number_29 : decode cX9_number 29 = .ok (.iload_n 2, 1) := by decide +kernel
theorem dX9_number_30 : decode cX9_number 30 = .ok (.invokevirtual 186, 3) := by decide +kernel
theorem dX9_number_33 : decode cX9_number 33 = .ok (.goto 4, 3) := by decide +kernel
theorem dX9_number_36 : decode cX9_number 36 = .ok (.iconst (-1), 1) := by decide +kernel
theorem dX9_number_37 : decode cX9_number 37 = .ok (.ireturn, 1) := by decide +kernel
theorem dX9_length_0 : decode cX9_length 0 = .ok (.aload_n 0, 1) := by decide +kernel
theorem dX9_length_1 : decode cX9_length 1 = .ok (.iload_n 1, 1) := by decide +kernel
theorem dX9_length_2 : decode cX9_length 2 = .ok (.invokevirtual 170, 3) := by decide +kernel
theorem dX9_length_5 : decode cX9_length 5 = .ok (.astore_n 2, 1) := by decide +kernel
theorem dX9_length_6 : decode cX9_length 6 = .ok (.aload_n 2, 1) := by decide +kernel
theorem dX9_length_7 : decode cX9_length 7 = .ok (.ifnonnull 8, 3) := by decide +kernel
theorem dX9_length_10 : decode cX9_length 10 = .ok (.bipush (-101), 2) := by decide +kernel
theorem dX9_length_12 : decode cX9_length 12 = .ok (.goto 7, 3) := by decide +kernel
theorem dX9_length_15 : decode cX9_length 15 = .ok (.aload_n 2, 1) := by decide +kernel
theorem dX9_length_16 : decode cX9_length 16 = .ok (.getfield 173, 3) := by decide +kernel
theorem dX9_length_19 : decode cX9_length 19 = .ok (.ireturn, 1) := by decide +kernel
theorem dX9_clear_0 : decode cX9_clear 0 = .ok (.aload_n 0, 1) := by decide +kernel
theorem dX9_clear_1 : decode cX9_clear 1 = .ok (.getfield 28, 3) := by decide +kernel
theorem dX9_clear_4 : decode cX9_clear 4 = .ok (.istore_n 1, 1) := by decide +kernel
theorem dX9_clear_5 : decode cX9_clear 5 = .ok (.aload_n 0, 1) := by decide +kernel
theorem dX9_clear_6 : decode cX9_clear 6 = .ok (.iconst 0, 1) := by decide +kernel
theorem dX9_clear_7 : decode cX9_clear 7 = .ok (.putfield 28, 3) := by decide +kernel
theorem dX9_clear_10 : decode cX9_clear 10 = .ok (.iload_n 1, 1) := by decide +kernel
theorem dX9_clear_11 : decode cX9_clear 11 = .ok (.ireturn, 1) := by decide +kernel
theorem dX9_entry_0 : decode cX9_entry 0 = .ok (.aload_n 0, 1) := by decide +kernel
theorem dX9_entry_1 : decode cX9_entry 1 = .ok (.iload_n 1, 1) := by decide +kernel
theorem dX9_entry_2 : decode cX9_entry 2 = .ok (.invokevirtual 170, 3) := by decide +kernel
theorem dX9_entry_5 : decode cX9_entry 5 = .ok (.astore 4, 2) := by decide +kernel
theorem dX9_entry_7 : decode cX9_entry 7 = .ok (.aload 4, 2) := by decide +kernel
theorem dX9_entry_9 : decode cX9_entry 9 = .ok (.ifnonnull 6, 3) := by decide +kernel
theorem dX9_entry_12 : decode cX9_entry 12 = .ok (.bipush (-101), 2) := by decide +kernel
theorem dX9_entry_14 : decode cX9_entry 14 = .ok (.ireturn, 1) := by decide +kernel
theorem dX9_entry_15 : decode cX9_entry 15 = .ok (.aload 4, 2) := by decide +kernel
theorem dX9_entry_17 : decode cX9_entry 17 = .ok (.iload_n 2, 1) := by decide +kernel
theorem dX9_entry_18 : decode cX9_entry 18 = .ok (.iload_n 3, 1) := by decide +kernel
theorem dX9_entry_19 : decode cX9_entry 19 = .ok (.invokestatic 203, 3) := by decide +kernel
theorem dX9_entry_22 : decode cX9_entry 22 = .ok (.ifCond .ne 6, 3) := by decide +kernel
theorem dX9_entry_25 : decode cX9_entry 25 = .ok (.bipush (-102), 2) := by decide +kernel
theorem dX9_entry_27 : decode cX9_entry 27 = .ok (.ireturn, 1) := by decide +kernel
theorem dX9_entry_28 : decode cX9_entry 28 = .ok (.aload_n 0, 1) := by decide +kernel
theorem dX9_entry_29 : decode cX9_entry 29 = .ok (.aload 4, 2) := by decide +kernel
theorem dX9_entry_31 : decode cX9_entry 31 = .ok (.iload_n 2, 1) := by decide +kernel
theorem dX9_entry_32 : decode cX9_entry 32 = .ok (.iload_n 3, 1) := by decide +kernel
theorem dX9_entry_33 : decode cX9_entry 33 = .ok (.aload_n 0, 1) := by decide +kernel
theorem dX9_entry_34 : decode cX9_entry 34 = .ok (.getfield 42, 3) := by decide +kernel
theorem dX9_entry_37 : decode cX9_entry 37 = .ok (.invokevirtual 207, 3) := by decide +kernel
theorem dX9_entry_40 : decode cX9_entry 40 = .ok (.aload_n 0, 1) := by decide +kernel
theorem dX9_entry_41 : decode cX9_entry 41 = .ok (.aload 4, 2) := by decide +kernel
theorem dX9_entry_43 : decode cX9_entry 43 = .ok (.aload_n 0, 1) := by decide +kernel
theorem dX9_entry_44 : decode cX9_entry 44 = .ok (.getfield 42, 3) := by decide +kernel
theorem dX9_entry_47 : decode cX9_entry 47 = .ok (.invokevirtual 211, 3) := by decide +kernel
theorem dX9_entry_50 : decode cX9_entry 50 = .ok (.ireturn, 1) := by decide +kernel
theorem dX9_worth_0 : decode cX9_worth 0 = .ok (.aload_n 0, 1) := by decide +kernel
theorem dX9_worth_1 : decode cX9_worth 1 = .ok (.iload_n 1, 1) := by decide +kernel
theorem dX9_worth_2 : decode cX9_worth 2 = .ok (.invokevirtual 170, 3) := by decide +kernel
theorem dX9_worth_5 : decode cX9_worth 5 = .ok (.astore 4, 2) := by decide +kernel
theorem dX9_worth_7 : decode cX9_worth 7 = .ok (.aload 4, 2) := by decide +kernel
theorem dX9_worth_9 : decode cX9_worth 9 = .ok (.ifnonnull 6, 3) := by decide +kernel
theorem dX9_worth_12 : decode cX9_worth 12 = .ok (.bipush (-101), 2) := by decide +kernel
theorem dX9_worth_14 : decode cX9_worth 14 = .ok (.ireturn, 1) := by decide +kernel
theorem dX9_worth_15 : decode cX9_worth 15 = .ok (.aload 4, 2) := by decide +kernel
theorem dX9_worth_17 : decode cX9_worth 17 = .ok (.iload_n 2, 1) := by decide +kernel
theorem dX9_worth_18 : decode cX9_worth 18 = .ok (.iload_n 3, 1) := by decide +kernel
theorem dX9_worth_19 : decode cX9_worth 19 = .ok (.invokestatic 203, 3) := by decide +kernel
theorem dX9_worth_22 : decode cX9_worth 22 = .ok (.ifCond .ne 6, 3) := by decide +kernel
theorem dX9_worth_25 : decode cX9_worth 25 = .ok (.bipush (-102), 2) := by decide +kernel
theorem dX9_worth_27 : decode cX9_worth 27 = .ok (.ireturn, 1) := by decide +kernel
theorem dX9_worth_28 : decode cX9_worth 28 = .ok (.aload_n 0, 1) := by decide +kernel
theorem dX9_worth_29 : decode cX9_worth 29 = .ok (.getfield 59, 3) := by decide +kernel
theorem dX9_worth_32 : decode cX9_worth 32 = .ok (.aload 4, 2) := by decide +kernel
theorem dX9_worth_34 : decode cX9_worth 34 = .ok (.iload_n 2, 1) := by decide +kernel
theorem dX9_worth_35 : decode cX9_worth 35 = .ok (.iload_n 3, 1) := by decide +kernel
theorem dX9_worth_36 : decode cX9_worth 36 = .ok (.invokevirtual 215, 3) := by decide +kernel
theorem dX9_worth_39 : decode cX9_worth 39 = .ok (.aload_n 0, 1) := by decide +kernel
theorem dX9_worth_40 : decode cX9_worth 40 = .ok (.getfield 59, 3) := by decide +kernel
theorem dX9_worth_43 : decode cX9_worth 43 = .ok (.iload_n 3, 1) := by decide +kernel
theorem dX9_worth_44 : decode cX9_worth 44 = .ok (.aload_n 0, 1) := by decide +kernel
theorem dX9_worth_45 : decode cX9_worth 45 = .ok (.getfield 12, 3) := by decide +kernel
theorem dX9_worth_48 : decode cX9_worth 48 = .ok (.invokevirtual 219, 3) := by decide +kernel
theorem dX9_worth_51 : decode cX9_worth 51 = .ok (.ireturn, 1) := by decide +kernel
theorem dX9_block_0 : decode cX9_block 0 = .ok (.aload_n 0, 1) := by decide +kernel
theorem dX9_block_1 : decode cX9_block 1 = .ok (.iload_n 1, 1) := by decide +kernel
theorem dX9_block_2 : decode cX9_block 2 = .ok (.invokevirtual 170, 3) := by decide +kernel
theorem dX9_block_5 : decode cX9_block 5 = .ok (.astore 5, 2) := by decide +kernel
theorem dX9_block_7 : decode cX9_block 7 = .ok (.aload 5, 2) := by decide +kernel
theorem dX9_block_9 : decode cX9_block 9 = .ok (.ifnonnull 6, 3) := by decide +kernel
theorem dX9_block_12 : decode cX9_block 12 = .ok (.bipush (-101), 2) := by decide +kernel
theorem dX9_block_14 : decode cX9_block 14 = .ok (.ireturn, 1) := by decide +kernel
theorem dX9_block_15 : decode cX9_block 15 = .ok (.aload 5, 2) := by decide +kernel
theorem dX9_block_17 : decode cX9_block 17 = .ok (.iload_n 2, 1) := by decide +kernel
theorem dX9_block_18 : decode cX9_block 18 = .ok (.iload_n 3, 1) := by decide +kernel
theorem dX9_block_19 : decode cX9_block 19 = .ok (.invokestatic 203, 3) := by decide +kernel
theorem dX9_block_22 : decode cX9_block 22 = .ok (.ifCond .eq 14, 3) := by decide +kernel
theorem dX9_block_25 : decode cX9_block 25 = .ok (.iload 4, 2) := by decide +kernel
theorem dX9_block_27 : decode cX9_block 27 = .ok (.ifCond .lt 9, 3) := by decide +kernel
theorem dX9_block_30 : decode cX9_block 30 = .ok (.iload 4, 2) := by decide +kernel
theorem dX9_block_32 : decode cX9_block 32 = .ok (.iconst 2, 1) := by decide +kernel
theorem dX9_block_33 : decode cX9_block 33 = .ok (.if_icmp .le 6, 3) := by decide +kernel
theorem dX9_block_36 : decode cX9_block 36 = .ok (.bipush (-102), 2) := by decide +kernel
theorem dX9_block_38 : decode cX9_block 38 = .ok (.ireturn, 1) := by decide +kernel
theorem dX9_block_39 : decode cX9_block 39 = .ok (.aload_n 0, 1) := by decide +kernel
theorem dX9_block_40 : decode cX9_block 40 = .ok (.aload 5, 2) := by decide +kernel
theorem dX9_block_42 : decode cX9_block 42 = .ok (.iload_n 2, 1) := by decide +kernel
theorem dX9_block_43 : decode cX9_block 43 = .ok (.iload_n 3, 1) := by decide +kernel
theorem dX9_block_44 : decode cX9_block 44 = .ok (.aload_n 0, 1) := by decide +kernel
theorem dX9_block_45 : decode cX9_block 45 = .ok (.getfield 46, 3) := by decide +kernel
theorem dX9_block_48 : decode cX9_block 48 = .ok (.invokevirtual 207, 3) := by decide +kernel
theorem dX9_block_51 : decode cX9_block 51 = .ok (.aload_n 0, 1) := by decide +kernel
theorem dX9_block_52 : decode cX9_block 52 = .ok (.getfield 46, 3) := by decide +kernel
theorem dX9_block_55 : decode cX9_block 55 = .ok (.getfield 160, 3) := by decide +kernel
theorem dX9_block_58 : decode cX9_block 58 = .ok (.invokevirtual 223, 3) := by decide +kernel
theorem dX9_block_61 : decode cX9_block 61 = .ok (.istore 6, 2) := by decide +kernel
theorem dX9_block_63 : decode cX9_block 63 = .ok (.aload_n 0, 1) := by decide +kernel
theorem dX9_block_64 : decode cX9_block 64 = .ok (.getfield 46, 3) := by decide +kernel
theorem dX9_block_67 : decode cX9_block 67 = .ok (.getfield 163, 3) := by decide +kernel
theorem dX9_block_70 : decode cX9_block 70 = .ok (.invokevirtual 223, 3) := by decide +kernel
theorem dX9_block_73 : decode cX9_block 73 = .ok (.istore 7, 2) := by decide +kernel
theorem dX9_block_75 : decode cX9_block 75 = .ok (.iload 6, 2) := by decide +kernel
theorem dX9_block_77 : decode cX9_block 77 = .ok (.ifCond .ge 9, 3) := by decide +kernel
theorem dX9_block_80 : decode cX9_block 80 = .ok (.aload_n 0, 1) := by decide +kernel
theorem dX9_block_81 : decode cX9_block 81 = .ok (.iconst 5, 1) := by decide +kernel
theorem dX9_block_82 : decode cX9_block 82 = .ok (.invokevirtual 106, 3) := by decide +kernel
theorem dX9_block_85 : decode cX9_block 85 = .ok (.ireturn, 1) := by decide +kernel
theorem dX9_block_86 : decode cX9_block 86 = .ok (.iload 4, 2) := by decide +kernel
theorem dX9_block_88 : decode cX9_block 88 = .ok (.iconst 2, 1) := by decide +kernel
theorem dX9_block_89 : decode cX9_block 89 = .ok (.if_icmp .ge 16, 3) := by decide +kernel
theorem dX9_block_92 : decode cX9_block 92 = .ok (.iload 4, 2) := by decide +kernel
theorem dX9_block_94 : decode cX9_block 94 = .ok (.ifCond .ne 8, 3) := by decide +kernel
theorem dX9_block_97 : decode cX9_block 97 = .ok (.iload 6, 2) := by decide +kernel
theorem dX9_block_99 : decode cX9_block 99 = .ok (.goto 5, 3) := by decide +kernel
theorem dX9_block_102 : decode cX9_block 102 = .ok (.iload 7, 2) := by decide +kernel
theorem dX9_block_104 : decode cX9_block 104 = .ok (.ireturn, 1) := by decide +kernel
theorem dX9_block_105 : decode cX9_block 105 = .ok (.aload_n 0, 1) := by decide +kernel
theorem dX9_block_106 : decode cX9_block 106 = .ok (.aload 5, 2) := by decide +kernel
theorem dX9_block_108 : decode cX9_block 108 = .ok (.aload_n 0, 1) := by decide +kernel
theorem dX9_block_109 : decode cX9_block 109 = .ok (.getfield 46, 3) := by decide +kernel
theorem dX9_block_112 : decode cX9_block 112 = .ok (.invokevirtual 211, 3) := by decide +kernel
theorem dX9_block_115 : decode cX9_block 115 = .ok (.istore 8, 2) := by decide +kernel
theorem dX9_block_117 : decode cX9_block 117 = .ok (.iload 8, 2) := by decide +kernel
theorem dX9_block_119 : decode cX9_block 119 = .ok (.aload 5, 2) := by decide +kernel
theorem dX9_block_121 : decode cX9_block 121 = .ok (.getfield 173, 3) := by decide +kernel
theorem dX9_block_124 : decode cX9_block 124 = .ok (.if_icmp .le 7, 3) := by decide +kernel
theorem dX9_block_127 : decode cX9_block 127 = .ok (.iconst (-1), 1) := by decide +kernel
theorem dX9_block_128 : decode cX9_block 128 = .ok (.goto 11, 3) := by decide +kernel
theorem dX9_block_131 : decode cX9_block 131 = .ok (.iload 8, 2) := by decide +kernel
theorem dX9_block_133 : decode cX9_block 133 = .ok (.iload 6, 2) := by decide +kernel
theorem dX9_block_135 : decode cX9_block 135 = .ok (.isub, 1) := by decide +kernel
theorem dX9_block_136 : decode cX9_block 136 = .ok (.iload 7, 2) := by decide +kernel
theorem dX9_block_138 : decode cX9_block 138 = .ok (.isub, 1) := by decide +kernel
theorem dX9_block_139 : decode cX9_block 139 = .ok (.ireturn, 1) := by decide +kernel
theorem dX9_stair_0 : decode cX9_stair 0 = .ok (.aload_n 0, 1) := by decide +kernel
theorem dX9_stair_1 : decode cX9_stair 1 = .ok (.iload_n 1, 1) := by decide +kernel
theorem dX9_stair_2 : decode cX9_stair 2 = .ok (.invokevirtual 170, 3) := by decide +kernel
theorem dX9_stair_5 : decode cX9_stair 5 = .ok (.astore_n 3, 1) := by decide +kernel
theorem dX9_stair_6 : decode cX9_stair 6 = .ok (.aload_n 3, 1) := by decide +kernel
theorem dX9_stair_7 : decode cX9_stair 7 = .ok (.ifnonnull 6, 3) := by decide +kernel
theorem dX9_stair_10 : decode cX9_stair 10 = .ok (.bipush (-101), 2) := by decide +kernel
theorem dX9_stair_12 : decode cX9_stair 12 = .ok (.ireturn, 1) := by decide +kernel
theorem dX9_stair_13 : decode cX9_stair 13 = .ok (.iload_n 2, 1) := by decide +kernel
theorem dX9_stair_14 : decode cX9_stair 14 = .ok (.ifCond .lt 11, 3) := by decide +kernel
theorem dX9_stair_17 : decode cX9_stair 17 = .ok (.iload_n 2, 1) := by decide +kernel
theorem dX9_stair_18 : decode cX9_stair 18 = .ok (.aload_n 3, 1) := by decide +kernel
theorem dX9_stair_19 : decode cX9_stair 19 = .ok (.getfield 173, 3) := by decide +kernel
theorem dX9_stair_22 : decode cX9_stair 22 = .ok (.if_icmp .le 6, 3) := by decide +kernel
theorem dX9_stair_25 : decode cX9_stair 25 = .ok (.bipush (-102), 2) := by decide +kernel
theorem dX9_stair_27 : decode cX9_stair 27 = .ok (.ireturn, 1) := by decide +kernel
theorem dX9_stair_28 : decode cX9_stair 28 = .ok (.iload_n 2, 1) := by decide +kernel
theorem dX9_stair_29 : decode cX9_stair 29 = .ok (.ifCond .ne 12, 3) := by decide +kernel
theorem dX9_stair_32 : decode cX9_stair 32 = .ok (.aload_n 3, 1) := by decide +kernel
theorem dX9_stair_33 : decode cX9_stair 33 = .ok (.getfield 149, 3) := by decide +kernel
theorem dX9_stair_36 : decode cX9_stair 36 = .ok (.iconst 0, 1) := by decide +kernel
theorem dX9_stair_37 : decode cX9_stair 37 = .ok (.invokevirtual 186, 3) := by decide +kernel
theorem dX9_stair_40 : decode cX9_stair 40 = .ok (.ireturn, 1) := by decide +kernel
theorem dX9_stair_41 : decode cX9_stair 41 = .ok (.aload_n 0, 1) := by decide +kernel
theorem dX9_stair_42 : decode cX9_stair 42 = .ok (.getfield 73, 3) := by decide +kernel
theorem dX9_stair_45 : decode cX9_stair 45 = .ok (.astore 4, 2) := by decide +kernel
theorem dX9_stair_47 : decode cX9_stair 47 = .ok (.aload 4, 2) := by decide +kernel
theorem dX9_stair_49 : decode cX9_stair 49 = .ok (.aload_n 3, 1) := by decide +kernel
theorem dX9_stair_50 : decode cX9_stair 50 = .ok (.getfield 149, 3) := by decide +kernel
theorem dX9_stair_53 : decode cX9_stair 53 = .ok (.invokevirtual 196, 3) := by decide +kernel
theorem dX9_stair_56 : decode cX9_stair 56 = .ok (.aload 4, 2) := by decide +kernel
theorem dX9_stair_58 : decode cX9_stair 58 = .ok (.invokevirtual 226, 3) := by decide +kernel
theorem dX9_stair_61 : decode cX9_stair 61 = .ok (.iconst 1, 1) := by decide +kernel
theorem dX9_stair_62 : decode cX9_stair 62 = .ok (.istore 5, 2) := by decide +kernel
theorem dX9_stair_64 : decode cX9_stair 64 = .ok (.iload 5, 2) := by decide +kernel
theorem dX9_stair_66 : decode cX9_stair 66 = .ok (.iload_n 2, 1) := by decide +kernel
theorem dX9_stair_67 : decode cX9_stair 67 = .ok (.if_icmp .ge 37, 3) := by decide +kernel
theorem dX9_stair_70 : decode cX9_stair 70 = .ok (.aload 4, 2) := by decide +kernel
theorem dX9_stair_72 : decode cX9_stair 72 = .ok (.iconst 0, 1) := by decide +kernel
theorem dX9_stair_73 : decode cX9_stair 73 = .ok (.invokevirtual 186, 3) := by decide +kernel
theorem dX9_stair_76 : decode cX9_stair 76 = .ok (.ifCond .ne 9, 3) := by decide +kernel
theorem dX9_stair_79 : decode cX9_stair 79 = .ok (.aload_n 0, 1) := by decide +kernel
theorem dX9_stair_80 : decode cX9_stair 80 = .ok (.iconst 5, 1) := by decide +kernel
theorem dX9_stair_81 : decode cX9_stair 81 = .ok (.invokevirtual 106, 3) := by decide +kernel
theorem dX9_stair_84 : decode cX9_stair 84 = .ok (.ireturn, 1) := by decide +kernel
theorem dX9_stair_85 : decode cX9_stair 85 = .ok (.aload_n 0, 1) := by decide +kernel
theorem dX9_stair_86 : decode cX9_stair 86 = .ok (.aload 4, 2) := by decide +kernel
theorem dX9_stair_88 : decode cX9_stair 88 = .ok (.aload_n 3, 1) := by decide +kernel
theorem dX9_stair_89 : decode cX9_stair 89 = .ok (.getfield 173, 3) := by decide +kernel
theorem dX9_stair_92 : decode cX9_stair 92 = .ok (.iload 5, 2) := by decide +kernel
theorem dX9_stair_94 : decode cX9_stair 94 = .ok (.isub, 1) := by decide +kernel
theorem dX9_stair_95 : decode cX9_stair 95 = .ok (.invokevirtual 229, 3) := by decide +kernel
theorem dX9_stair_98 : decode cX9_stair 98 = .ok (.iinc 5 1, 3) := by decide +kernel
theorem dX9_stair_101 : decode cX9_stair 101 = .ok (.goto (-37), 3) := by decide +kernel
theorem dX9_stair_104 : decode cX9_stair 104 = .ok (.aload 4, 2) := by decide +kernel
theorem dX9_stair_106 : decode cX9_stair 106 = .ok (.iconst 0, 1) := by decide +kernel
theorem dX9_stair_107 : decode cX9_stair 107 = .ok (.invokevirtual 186, 3) := by decide +kernel
theorem dX9_stair_110 : decode cX9_stair 110 = .ok (.ireturn, 1) := by decide +kernel
theorem dX9_recur_0 : decode cX9_recur 0 = .ok (.aload_n 0, 1) := by decide +kernel
theorem dX9_recur_1 : decode cX9_recur 1 = .ok (.iload_n 1, 1) := by decide +kernel
theorem dX9_recur_2 : decode cX9_recur 2 = .ok (.invokevirtual 170, 3) := by decide +kernel
theorem dX9_recur_5 : decode cX9_recur 5 = .ok (.astore_n 2, 1) := by decide +kernel
theorem dX9_recur_6 : decode cX9_recur 6 = .ok (.aload_n 2, 1) := by decide +kernel
theorem dX9_recur_7 : decode cX9_recur 7 = .ok (.ifnonnull 6, 3) := by decide +kernel
theorem dX9_recur_10 : decode cX9_recur 10 = .ok (.bipush (-101), 2) := by decide +kernel
theorem dX9_recur_12 : decode cX9_recur 12 = .ok (.ireturn, 1) := by decide +kernel
theorem dX9_recur_13 : decode cX9_recur 13 = .ok (.aload_n 0, 1) := by decide +kernel
theorem dX9_recur_14 : decode cX9_recur 14 = .ok (.getfield 66, 3) := by decide +kernel
theorem dX9_recur_17 : decode cX9_recur 17 = .ok (.aload_n 2, 1) := by decide +kernel
theorem dX9_recur_18 : decode cX9_recur 18 = .ok (.aload_n 0, 1) := by decide +kernel
theorem dX9_recur_19 : decode cX9_recur 19 = .ok (.getfield 12, 3) := by decide +kernel
theorem dX9_recur_22 : decode cX9_recur 22 = .ok (.invokevirtual 233, 3) := by decide +kernel
theorem dX9_recur_25 : decode cX9_recur 25 = .ok (.istore_n 3, 1) := by decide +kernel
theorem dX9_recur_26 : decode cX9_recur 26 = .ok (.iload_n 3, 1) := by decide +kernel
theorem dX9_recur_27 : decode cX9_recur 27 = .ok (.ifCond .ne 13, 3) := by decide +kernel
theorem dX9_recur_30 : decode cX9_recur 30 = .ok (.aload_n 0, 1) := by decide +kernel
theorem dX9_recur_31 : decode cX9_recur 31 = .ok (.getfield 42, 3) := by decide +kernel
theorem dX9_recur_34 : decode cX9_recur 34 = .ok (.invokevirtual 96, 3) := by decide +kernel
theorem dX9_recur_37 : decode cX9_recur 37 = .ok (.goto 28, 3) := by decide +kernel
theorem dX9_recur_40 : decode cX9_recur 40 = .ok (.iconst 2, 1) := by decide +kernel
theorem dX9_recur_41 : decode cX9_recur 41 = .ok (.iload_n 3, 1) := by decide +kernel
theorem dX9_recur_42 : decode cX9_recur 42 = .ok (.imul, 1) := by decide +kernel
theorem dX9_recur_43 : decode cX9_recur 43 = .ok (.iconst 1, 1) := by decide +kernel
theorem dX9_recur_44 : decode cX9_recur 44 = .ok (.isub, 1) := by decide +kernel
theorem dX9_recur_45 : decode cX9_recur 45 = .ok (.aload_n 2, 1) := by decide +kernel
theorem dX9_recur_46 : decode cX9_recur 46 = .ok (.getfield 173, 3) := by decide +kernel
theorem dX9_recur_49 : decode cX9_recur 49 = .ok (.if_icmp .gt 16, 3) := by decide +kernel
theorem dX9_recur_52 : decode cX9_recur 52 = .ok (.aload_n 0, 1) := by decide +kernel
theorem dX9_recur_53 : decode cX9_recur 53 = .ok (.aload_n 2, 1) := by decide +kernel
theorem dX9_recur_54 : decode cX9_recur 54 = .ok (.iload_n 3, 1) := by decide +kernel
theorem dX9_recur_55 : decode cX9_recur 55 = .ok (.iconst 1, 1) := by decide +kernel
theorem dX9_recur_56 : decode cX9_recur 56 = .ok (.isub, 1) := by decide +kernel
theorem dX9_recur_57 : decode cX9_recur 57 = .ok (.iload_n 3, 1) := by decide +kernel
theorem dX9_recur_58 : decode cX9_recur 58 = .ok (.aload_n 0, 1) := by decide +kernel
theorem dX9_recur_59 : decode cX9_recur 59 = .ok (.getfield 42, 3) := by decide +kernel
theorem dX9_recur_62 : decode cX9_recur 62 = .ok (.invokevirtual 207, 3) := by decide +kernel
theorem dX9_recur_65 : decode cX9_recur 65 = .ok (.iload_n 3, 1) := by decide +kernel
theorem dX9_recur_66 : decode cX9_recur 66 = .ok (.ireturn, 1) := by decide +kernel
theorem dX9_point_0 : decode cX9_point 0 = .ok (.aload_n 0, 1) := by decide +kernel
theorem dX9_point_1 : decode cX9_point 1 = .ok (.getfield 12, 3) := by decide +kernel
theorem dX9_point_4 : decode cX9_point 4 = .ok (.iload_n 1, 1) := by decide +kernel
theorem dX9_point_5 : decode cX9_point 5 = .ok (.i2l, 1) := by decide +kernel
theorem dX9_point_6 : decode cX9_point 6 = .ok (.invokevirtual 182, 3) := by decide +kernel
theorem dX9_point_9 : decode cX9_point 9 = .ok (.istore_n 3, 1) := by decide +kernel
theorem dX9_point_10 : decode cX9_point 10 = .ok (.aload_n 0, 1) := by decide +kernel
theorem dX9_point_11 : decode cX9_point 11 = .ok (.getfield 12, 3) := by decide +kernel
theorem dX9_point_14 : decode cX9_point 14 = .ok (.iload_n 2, 1) := by decide +kernel
theorem dX9_point_15 : decode cX9_point 15 = .ok (.i2l, 1) := by decide +kernel
theorem dX9_point_16 : decode cX9_point 16 = .ok (.invokevirtual 182, 3) := by decide +kernel
theorem dX9_point_19 : decode cX9_point 19 = .ok (.istore 4, 2) := by decide +kernel
theorem dX9_point_21 : decode cX9_point 21 = .ok (.aload_n 0, 1) := by decide +kernel
theorem dX9_point_22 : decode cX9_point 22 = .ok (.getfield 35, 3) := by decide +kernel
theorem dX9_point_25 : decode cX9_point 25 = .ok (.iload_n 3, 1) := by decide +kernel
theorem dX9_point_26 : decode cX9_point 26 = .ok (.invokevirtual 237, 3) := by decide +kernel
theorem dX9_point_29 : decode cX9_point 29 = .ok (.istore 5, 2) := by decide +kernel
theorem dX9_point_31 : decode cX9_point 31 = .ok (.iload 5, 2) := by decide +kernel
theorem dX9_point_33 : decode cX9_point 33 = .ok (.ifCond .lt 30, 3) := by decide +kernel
theorem dX9_point_36 : decode cX9_point 36 = .ok (.aload_n 0, 1) := by decide +kernel
theorem dX9_point_37 : decode cX9_point 37 = .ok (.getfield 35, 3) := by decide +kernel
theorem dX9_point_40 : decode cX9_point 40 = .ok (.iload 5, 2) := by decide +kernel
theorem dX9_point_42 : decode cX9_point 42 = .ok (.invokevirtual 240, 3) := by decide +kernel
theorem dX9_point_45 : decode cX9_point 45 = .ok (.iload 4, 2) := by decide +kernel
theorem dX9_point_47 : decode cX9_point 47 = .ok (.if_icmp .ne 13, 3) := by decide +kernel
theorem dX9_point_50 : decode cX9_point 50 = .ok (.aload_n 0, 1) := by decide +kernel
theorem dX9_point_51 : decode cX9_point 51 = .ok (.getfield 35, 3) := by decide +kernel
theorem dX9_point_54 : decode cX9_point 54 = .ok (.getfield 90, 3) := by decide +kernel
theorem dX9_point_57 : decode cX9_point 57 = .ok (.goto 5, 3) := by decide +kernel
theorem dX9_point_60 : decode cX9_point 60 = .ok (.bipush (-103), 2) := by decide +kernel
theorem dX9_point_62 : decode cX9_point 62 = .ok (.ireturn, 1) := by decide +kernel
theorem dX9_point_63 : decode cX9_point 63 = .ok (.aload_n 0, 1) := by decide +kernel
theorem dX9_point_64 : decode cX9_point 64 = .ok (.getfield 35, 3) := by decide +kernel
theorem dX9_point_67 : decode cX9_point 67 = .ok (.getfield 90, 3) := by decide +kernel
theorem dX9_point_70 : decode cX9_point 70 = .ok (.bipush 20, 2) := by decide +kernel
theorem dX9_point_72 : decode cX9_point 72 = .ok (.if_icmp .lt 6, 3) := by decide +kernel
theorem dX9_point_75 : decode cX9_point 75 = .ok (.bipush (-104), 2) := by decide +kernel
theorem dX9_point_77 : decode cX9_point 77 = .ok (.ireturn, 1) := by decide +kernel
theorem dX9_point_78 : decode cX9_point 78 = .ok (.aload_n 0, 1) := by decide +kernel
theorem dX9_point_79 : decode cX9_point 79 = .ok (.getfield 35, 3) := by decide +kernel
theorem dX9_point_82 : decode cX9_point 82 = .ok (.iload_n 3, 1) := by decide +kernel
theorem dX9_point_83 : decode cX9_point 83 = .ok (.iload 4, 2) := by decide +kernel
theorem dX9_point_85 : decode cX9_point 85 = .ok (.invokevirtual 243, 3) := by decide +kernel
theorem dX9_point_88 : decode cX9_point 88 = .ok (.aload_n 0, 1) := by decide +kernel
theorem dX9_point_89 : decode cX9_point 89 = .ok (.getfield 35, 3) := by decide +kernel
theorem dX9_point_92 : decode cX9_point 92 = .ok (.getfield 90, 3) := by decide +kernel
theorem dX9_point_95 : decode cX9_point 95 = .ok (.ireturn, 1) := by decide +kernel
theorem dX9_wipe_0 : decode cX9_wipe 0 = .ok (.aload_n 0, 1) := by decide +kernel
theorem dX9_wipe_1 : decode cX9_wipe 1 = .ok (.getfield 35, 3) := by decide +kernel
theorem dX9_wipe_4 : decode cX9_wipe 4 = .ok (.getfield 90, 3) := by decide +kernel
theorem dX9_wipe_7 : decode cX9_wipe 7 = .ok (.istore_n 1, 1) := by decide +kernel
theorem dX9_wipe_8 : decode cX9_wipe 8 = .ok (.aload_n 0, 1) := by decide +kernel
theorem dX9_wipe_9 : decode cX9_wipe 9 = .ok (.getfield 35, 3) := by decide +kernel
theorem dX9_wipe_12 : decode cX9_wipe 12 = .ok (.iconst 0, 1) := by decide +kernel
theorem dX9_wipe_13 : decode cX9_wipe 13 = .ok (.putfield 90, 3) := by decide +kernel
theorem dX9_wipe_16 : decode cX9_wipe 16 = .ok (.iload_n 1, 1) := by decide +kernel
theorem dX9_wipe_17 : decode cX9_wipe 17 = .ok (.ireturn, 1) := by decide +kernel
theorem dX9_join_0 : decode cX9_join 0 = .ok (.iload_n 1, 1) := by decide +kernel
theorem dX9_join_1 : decode cX9_join 1 = .ok (.ifCond .lt 7, 3) := by decide +kernel
theorem dX9_join_4 : decode cX9_join 4 = .ok (.iload_n 2, 1) := by decide +kernel
theorem dX9_join_5 : decode cX9_join 5 = .ok (.ifCond .ge 6, 3) := by decide +kernel
theorem dX9_join_8 : decode cX9_join 8 = .ok (.bipush (-102), 2) := by decide +kernel
theorem dX9_join_10 : decode cX9_join 10 = .ok (.ireturn, 1) := by decide +kernel
theorem dX9_join_11 : decode cX9_join 11 = .ok (.iload_n 1, 1) := by decide +kernel
theorem dX9_join_12 : decode cX9_join 12 = .ok (.i2l, 1) := by decide +kernel
theorem dX9_join_13 : decode cX9_join 13 = .ok (.iload_n 2, 1) := by decide +kernel
theorem dX9_join_14 : decode cX9_join 14 = .ok (.i2l, 1) := by decide +kernel
theorem dX9_join_15 : decode cX9_join 15 = .ok (.ladd, 1) := by decide +kernel
theorem dX9_join_16 : decode cX9_join 16 = .ok (.lconst 1, 1) := by decide +kernel
theorem dX9_join_17 : decode cX9_join 17 = .ok (.ladd, 1) := by decide +kernel
theorem dX9_join_18 : decode cX9_join 18 = .ok (.aload_n 0, 1) := by decide +kernel
theorem dX9_join_19 : decode cX9_join 19 = .ok (.getfield 35, 3) := by decide +kernel
theorem dX9_join_22 : decode cX9_join 22 = .ok (.getfield 90, 3) := by decide +kernel
theorem dX9_join_25 : decode cX9_join 25 = .ok (.i2l, 1) := by decide +kernel
theorem dX9_join_26 : decode cX9_join 26 = .ok (.lcmp, 1) := by decide +kernel
theorem dX9_join_27 : decode cX9_join 27 = .ok (.ifCond .eq 6, 3) := by decide +kernel
theorem dX9_join_30 : decode cX9_join 30 = .ok (.bipush (-103), 2) := by decide +kernel
theorem dX9_join_32 : decode cX9_join 32 = .ok (.ireturn, 1) := by decide +kernel
theorem dX9_join_33 : decode cX9_join 33 = .ok (.aload_n 0, 1) := by decide +kernel
theorem dX9_join_34 : decode cX9_join 34 = .ok (.getfield 35, 3) := by decide +kernel
theorem dX9_join_37 : decode cX9_join 37 = .ok (.aload_n 0, 1) := by decide +kernel
theorem dX9_join_38 : decode cX9_join 38 = .ok (.getfield 52, 3) := by decide +kernel
theorem dX9_join_41 : decode cX9_join 41 = .ok (.getfield 246, 3) := by decide +kernel
theorem dX9_join_44 : decode cX9_join 44 = .ok (.aload_n 0, 1) := by decide +kernel
theorem dX9_join_45 : decode cX9_join 45 = .ok (.getfield 52, 3) := by decide +kernel
theorem dX9_join_48 : decode cX9_join 48 = .ok (.getfield 248, 3) := by decide +kernel
theorem dX9_join_51 : decode cX9_join 51 = .ok (.aload_n 0, 1) := by decide +kernel
theorem dX9_join_52 : decode cX9_join 52 = .ok (.getfield 12, 3) := by decide +kernel
theorem dX9_join_55 : decode cX9_join 55 = .ok (.invokevirtual 251, 3) := by decide +kernel
theorem dX9_join_58 : decode cX9_join 58 = .ok (.aload_n 0, 1) := by decide +kernel
theorem dX9_join_59 : decode cX9_join 59 = .ok (.getfield 52, 3) := by decide +kernel
theorem dX9_join_62 : decode cX9_join 62 = .ok (.iload_n 1, 1) := by decide +kernel
theorem dX9_join_63 : decode cX9_join 63 = .ok (.aload_n 0, 1) := by decide +kernel
theorem dX9_join_64 : decode cX9_join 64 = .ok (.getfield 46, 3) := by decide +kernel
theorem dX9_join_67 : decode cX9_join 67 = .ok (.aload_n 0, 1) := by decide +kernel
theorem dX9_join_68 : decode cX9_join 68 = .ok (.getfield 12, 3) := by decide +kernel
theorem dX9_join_71 : decode cX9_join 71 = .ok (.invokevirtual 255, 3) := by decide +kernel
theorem dX9_join_74 : decode cX9_join 74 = .ok (.aload_n 0, 1) := by decide +kernel
theorem dX9_join_75 : decode cX9_join 75 = .ok (.getfield 35, 3) := by decide +kernel
theorem dX9_join_78 : decode cX9_join 78 = .ok (.aload_n 0, 1) := by decide +kernel
theorem dX9_join_79 : decode cX9_join 79 = .ok (.getfield 46, 3) := by decide +kernel
theorem dX9_join_82 : decode cX9_join 82 = .ok (.aload_n 0, 1) := by decide +kernel
theorem dX9_join_83 : decode cX9_join 83 = .ok (.getfield 12, 3) := by decide +kernel
theorem dX9_join_86 : decode cX9_join 86 = .ok (.invokevirtual 259, 3) := by decide +kernel
theorem dX9_join_89 : decode cX9_join 89 = .ok (.ifCond .ne 5, 3) := by decide +kernel
theorem dX9_join_92 : decode cX9_join 92 = .ok (.iconst 0, 1) := by decide +kernel
theorem dX9_join_93 : decode cX9_join 93 = .ok (.ireturn, 1) := by decide +kernel
theorem dX9_join_94 : decode cX9_join 94 = .ok (.aload_n 0, 1) := by decide +kernel
theorem dX9_join_95 : decode cX9_join 95 = .ok (.getfield 42, 3) := by decide +kernel
theorem dX9_join_98 : decode cX9_join 98 = .ok (.aload_n 0, 1) := by decide +kernel
theorem dX9_join_99 : decode cX9_join 99 = .ok (.getfield 46, 3) := by decide +kernel
theorem dX9_join_102 : decode cX9_join 102 = .ok (.invokevirtual 263, 3) := by decide +kernel
theorem dX9_join_105 : decode cX9_join 105 = .ok (.iconst 1, 1) := by decide +kernel
theorem dX9_join_106 : decode cX9_join 106 = .ok (.ireturn, 1) := by decide +kernel
theorem dX9_degree_0 : decode cX9_degree 0 = .ok (.aload_n 0, 1) := by decide +kernel
theorem dX9_degree_1 : decode cX9_degree 1 = .ok (.getfield 42, 3) := by decide +kernel
theorem dX9_degree_4 : decode cX9_degree 4 = .ok (.iload_n 1, 1) := by decide +kernel
theorem dX9_degree_5 : decode cX9_degree 5 = .ok (.invokevirtual 266, 3) := by decide +kernel
theorem dX9_degree_8 : decode cX9_degree 8 = .ok (.astore_n 2, 1) := by decide +kernel
theorem dX9_degree_9 : decode cX9_degree 9 = .ok (.aload_n 2, 1) := by decide +kernel
theorem dX9_degree_10 : decode cX9_degree 10 = .ok (.ifnonnull 8, 3) := by decide +kernel
theorem dX9_degree_13 : decode cX9_degree 13 = .ok (.bipush (-102), 2) := by decide +kernel
theorem dX9_degree_15 : decode cX9_degree 15 = .ok (.goto 7, 3) := by decide +kernel
theorem dX9_degree_18 : decode cX9_degree 18 = .ok (.aload_n 2, 1) := by decide +kernel
theorem dX9_degree_19 : decode cX9_degree 19 = .ok (.invokevirtual 223, 3) := by decide +kernel
theorem dX9_degree_22 : decode cX9_degree 22 = .ok (.ireturn, 1) := by decide +kernel
theorem dX9_term_0 : decode cX9_term 0 = .ok (.aload_n 0, 1) := by decide +kernel
theorem dX9_term_1 : decode cX9_term 1 = .ok (.getfield 42, 3) := by decide +kernel
theorem dX9_term_4 : decode cX9_term 4 = .ok (.iload_n 1, 1) := by decide +kernel
theorem dX9_term_5 : decode cX9_term 5 = .ok (.invokevirtual 266, 3) := by decide +kernel
theorem dX9_term_8 : decode cX9_term 8 = .ok (.astore_n 3, 1) := by decide +kernel
theorem dX9_term_9 : decode cX9_term 9 = .ok (.aload_n 3, 1) := by decide +kernel
theorem dX9_term_10 : decode cX9_term 10 = .ok (.ifnonnull 8, 3) := by decide +kernel
theorem dX9_term_13 : decode cX9_term 13 = .ok (.bipush (-102), 2) := by decide +kernel
theorem dX9_term_15 : decode cX9_term 15 = .ok (.goto 8, 3) := by decide +kernel
theorem dX9_term_18 : decode cX9_term 18 = .ok (.aload_n 3, 1) := by decide +kernel
theorem dX9_term_19 : decode cX9_term 19 = .ok (.iload_n 2, 1) := by decide +kernel
theorem dX9_term_20 : decode cX9_term 20 = .ok (.invokevirtual 186, 3) := by decide +kernel
theorem dX9_term_23 : decode cX9_term 23 = .ok (.ireturn, 1) := by decide +kernel
theorem dX9_value_0 : decode cX9_value 0 = .ok (.aload_n 0, 1) := by decide +kernel
theorem dX9_value_1 : decode cX9_value 1 = .ok (.getfield 12, 3) := by decide +kernel
theorem dX9_value_4 : decode cX9_value 4 = .ok (.iload_n 1, 1) := by decide +kernel
theorem dX9_value_5 : decode cX9_value 5 = .ok (.i2l, 1) := by decide +kernel
theorem dX9_value_6 : decode cX9_value 6 = .ok (.invokevirtual 182, 3) := by decide +kernel
theorem dX9_value_9 : decode cX9_value 9 = .ok (.istore_n 2, 1) := by decide +kernel
theorem dX9_value_10 : decode cX9_value 10 = .ok (.aload_n 0, 1) := by decide +kernel
theorem dX9_value_11 : decode cX9_value 11 = .ok (.getfield 42, 3) := by decide +kernel
theorem dX9_value_14 : decode cX9_value 14 = .ok (.getfield 163, 3) := by decide +kernel
theorem dX9_value_17 : decode cX9_value 17 = .ok (.iload_n 2, 1) := by decide +kernel
theorem dX9_value_18 : decode cX9_value 18 = .ok (.aload_n 0, 1) := by decide +kernel
theorem dX9_value_19 : decode cX9_value 19 = .ok (.getfield 12, 3) := by decide +kernel
theorem dX9_value_22 : decode cX9_value 22 = .ok (.invokevirtual 270, 3) := by decide +kernel
theorem dX9_value_25 : decode cX9_value 25 = .ok (.istore_n 3, 1) := by decide +kernel
theorem dX9_value_26 : decode cX9_value 26 = .ok (.iload_n 3, 1) := by decide +kernel
theorem dX9_value_27 : decode cX9_value 27 = .ok (.ifCond .ne 5, 3) := by decide +kernel
theorem dX9_value_30 : decode cX9_value 30 = .ok (.iconst (-1), 1) := by decide +kernel
theorem dX9_value_31 : decode cX9_value 31 = .ok (.ireturn, 1) := by decide +kernel
theorem dX9_value_32 : decode cX9_value 32 = .ok (.aload_n 0, 1) := by decide +kernel
theorem dX9_value_33 : decode cX9_value 33 = .ok (.getfield 12, 3) := by decide +kernel
theorem dX9_value_36 : decode cX9_value 36 = .ok (.aload_n 0, 1) := by decide +kernel
theorem dX9_value_37 : decode cX9_value 37 = .ok (.getfield 42, 3) := by decide +kernel
theorem dX9_value_40 : decode cX9_value 40 = .ok (.getfield 160, 3) := by decide +kernel
theorem dX9_value_43 : decode cX9_value 43 = .ok (.iload_n 2, 1) := by decide +kernel
theorem dX9_value_44 : decode cX9_value 44 = .ok (.aload_n 0, 1) := by decide +kernel
theorem dX9_value_45 : decode cX9_value 45 = .ok (.getfield 12, 3) := by decide +kernel
theorem dX9_value_48 : decode cX9_value 48 = .ok (.invokevirtual 270, 3) := by decide +kernel
theorem dX9_value_51 : decode cX9_value 51 = .ok (.aload_n 0, 1) := by decide +kernel
theorem dX9_value_52 : decode cX9_value 52 = .ok (.getfield 12, 3) := by decide +kernel
theorem dX9_value_55 : decode cX9_value 55 = .ok (.iload_n 3, 1) := by decide +kernel
theorem dX9_value_56 : decode cX9_value 56 = .ok (.invokevirtual 273, 3) := by decide +kernel
theorem dX9_value_59 : decode cX9_value 59 = .ok (.invokevirtual 200, 3) := by decide +kernel
theorem dX9_value_62 : decode cX9_value 62 = .ok (.ireturn, 1) := by decide +kernel
theorem dX9_cause_0 : decode cX9_cause 0 = .ok (.aload_n 0, 1) := by decide +kernel
theorem dX9_cause_1 : decode cX9_cause 1 = .ok (.getfield 81, 3) := by decide +kernel
theorem dX9_cause_4 : decode cX9_cause 4 = .ok (.ireturn, 1) := by decide +kernel
theorem dX9_causes_0 : decode cX9_causes 0 = .ok (.iload_n 1, 1) := by decide +kernel
theorem dX9_causes_1 : decode cX9_causes 1 = .ok (.iconst 1, 1) := by decide +kernel
theorem dX9_causes_2 : decode cX9_causes 2 = .ok (.if_icmp .lt 17, 3) := by decide +kernel
theorem dX9_causes_5 : decode cX9_causes 5 = .ok (.iload_n 1, 1) := by decide +kernel
theorem dX9_causes_6 : decode cX9_causes 6 = .ok (.iconst 5, 1) := by decide +kernel
theorem dX9_causes_7 : decode cX9_causes 7 = .ok (.if_icmp .gt 12, 3) := by decide +kernel
theorem dX9_causes_10 : decode cX9_causes 10 = .ok (.aload_n 0, 1) := by decide +kernel
theorem dX9_causes_11 : decode cX9_causes 11 = .ok (.getfield 77, 3) := by decide +kernel
theorem dX9_causes_14 : decode cX9_causes 14 = .ok (.iload_n 1, 1) := by decide +kernel
theorem dX9_causes_15 : decode cX9_causes 15 = .ok (.iaload, 1) := by decide +kernel
theorem dX9_causes_16 : decode cX9_causes 16 = .ok (.goto 5, 3) := by decide +kernel
theorem dX9_causes_19 : decode cX9_causes 19 = .ok (.bipush (-102), 2) := by decide +kernel
theorem dX9_causes_21 : decode cX9_causes 21 = .ok (.ireturn, 1) := by decide +kernel
theorem dX9_count_0 : decode cX9_count 0 = .ok (.iload_n 1, 1) := by decide +kernel
theorem dX9_count_1 : decode cX9_count 1 = .ok (.tableswitch 57 0 3 #[31, 39, 44, 52], 31) := by decide +kernel
theorem dX9_count_32 : decode cX9_count 32 = .ok (.aload_n 0, 1) := by decide +kernel
theorem dX9_count_33 : decode cX9_count 33 = .ok (.getfield 12, 3) := by decide +kernel
theorem dX9_count_36 : decode cX9_count 36 = .ok (.getfield 93, 3) := by decide +kernel
theorem dX9_count_39 : decode cX9_count 39 = .ok (.ireturn, 1) := by decide +kernel
theorem dX9_count_40 : decode cX9_count 40 = .ok (.aload_n 0, 1) := by decide +kernel
theorem dX9_count_41 : decode cX9_count 41 = .ok (.getfield 28, 3) := by decide +kernel
theorem dX9_count_44 : decode cX9_count 44 = .ok (.ireturn, 1) := by decide +kernel
theorem dX9_count_45 : decode cX9_count 45 = .ok (.aload_n 0, 1) := by decide +kernel
theorem dX9_count_46 : decode cX9_count 46 = .ok (.getfield 35, 3) := by decide +kernel
theorem dX9_count_49 : decode cX9_count 49 = .ok (.getfield 90, 3) := by decide +kernel
theorem dX9_count_52 : decode cX9_count 52 = .ok (.ireturn, 1) := by decide +kernel
theorem dX9_count_53 : decode cX9_count 53 = .ok (.aload_n 0, 1) := by decide +kernel
theorem dX9_count_54 : decode cX9_count 54 = .ok (.invokevirtual 276, 3) := by decide +kernel
theorem dX9_count_57 : decode cX9_count 57 = .ok (.ireturn, 1) := by decide +kernel
theorem dX9_count_58 : decode cX9_count 58 = .ok (.bipush (-102), 2) := by decide +kernel
theorem dX9_count_60 : decode cX9_count 60 = .ok (.ireturn, 1) := by decide +kernel
theorem dX9_digest_0 : decode cX9_digest 0 = .ok (.ldc2_w 279, 3) := by decide +kernel
theorem dX9_digest_3 : decode cX9_digest 3 = .ok (.aload_n 0, 1) := by decide +kernel
theorem dX9_digest_4 : decode cX9_digest 4 = .ok (.getfield 12, 3) := by decide +kernel
theorem dX9_digest_7 : decode cX9_digest 7 = .ok (.getfield 93, 3) := by decide +kernel
theorem dX9_digest_10 : decode cX9_digest 10 = .ok (.i2l, 1) := by decide +kernel
theorem dX9_digest_11 : decode cX9_digest 11 = .ok (.invokestatic 281, 3) := by decide +kernel
theorem dX9_digest_14 : decode cX9_digest 14 = .ok (.lstore_n 1, 1) := by decide +kernel
theorem dX9_digest_15 : decode cX9_digest 15 = .ok (.iconst 0, 1) := by decide +kernel
theorem dX9_digest_16 : decode cX9_digest 16 = .ok (.istore_n 3, 1) := by decide +kernel
theorem dX9_digest_17 : decode cX9_digest 17 = .ok (.iload_n 3, 1) := by decide +kernel
theorem dX9_digest_18 : decode cX9_digest 18 = .ok (.iconst 4, 1) := by decide +kernel
theorem dX9_digest_19 : decode cX9_digest 19 = .ok (.if_icmp .ge 20, 3) := by decide +kernel
theorem dX9_digest_22 : decode cX9_digest 22 = .ok (.aload_n 0, 1) := by decide +kernel
theorem dX9_digest_23 : decode cX9_digest 23 = .ok (.getfield 18, 3) := by decide +kernel
theorem dX9_digest_26 : decode cX9_digest 26 = .ok (.iload_n 3, 1) := by decide +kernel
theorem dX9_digest_27 : decode cX9_digest 27 = .ok (.aaload, 1) := by decide +kernel
theorem dX9_digest_28 : decode cX9_digest 28 = .ok (.lload_n 1, 1) := by decide +kernel
theorem dX9_digest_29 : decode cX9_digest 29 = .ok (.invokevirtual 285, 3) := by decide +kernel
theorem dX9_digest_32 : decode cX9_digest 32 = .ok (.lstore_n 1, 1) := by decide +kernel
theorem dX9_digest_33 : decode cX9_digest 33 = .ok (.iinc 3 1, 3) := by decide +kernel
theorem dX9_digest_36 : decode cX9_digest 36 = .ok (.goto (-19), 3) := by decide +kernel
theorem dX9_digest_39 : decode cX9_digest 39 = .ok (.iconst 0, 1) := by decide +kernel
theorem dX9_digest_40 : decode cX9_digest 40 = .ok (.istore_n 3, 1) := by decide +kernel
theorem dX9_digest_41 : decode cX9_digest 41 = .ok (.iload_n 3, 1) := by decide +kernel
theorem dX9_digest_42 : decode cX9_digest 42 = .ok (.aload_n 0, 1) := by decide +kernel
theorem dX9_digest_43 : decode cX9_digest 43 = .ok (.getfield 28, 3) := by decide +kernel
theorem dX9_digest_46 : decode cX9_digest 46 = .ok (.if_icmp .ge 53, 3) := by decide +kernel
theorem dX9_digest_49 : decode cX9_digest 49 = .ok (.iload_n 3, 1) := by decide +kernel
theorem dX9_digest_50 : decode cX9_digest 50 = .ok (.bipush 10, 2) := by decide +kernel
theorem dX9_digest_52 : decode cX9_digest 52 = .ok (.if_icmp .ge 47, 3) := by decide +kernel
theorem dX9_digest_55 : decode cX9_digest 55 = .ok (.lload_n 1, 1) := by decide +kernel
theorem dX9_digest_56 : decode cX9_digest 56 = .ok (.aload_n 0, 1) := by decide +kernel
theorem dX9_digest_57 : decode cX9_digest 57 = .ok (.getfield 24, 3) := by decide +kernel
theorem dX9_digest_60 : decode cX9_digest 60 = .ok (.iload_n 3, 1) := by decide +kernel
theorem dX9_digest_61 : decode cX9_digest 61 = .ok (.aaload, 1) := by decide +kernel
theorem dX9_digest_62 : decode cX9_digest 62 = .ok (.getfield 173, 3) := by decide +kernel
theorem dX9_digest_65 : decode cX9_digest 65 = .ok (.i2l, 1) := by decide +kernel
theorem dX9_digest_66 : decode cX9_digest 66 = .ok (.invokestatic 281, 3) := by decide +kernel
theorem dX9_digest_69 : decode cX9_digest 69 = .ok (.lstore_n 1, 1) := by decide +kernel
theorem dX9_digest_70 : decode cX9_digest 70 = .ok (.aload_n 0, 1) := by decide +kernel
theorem dX9_digest_71 : decode cX9_digest 71 = .ok (.getfield 24, 3) := by decide +kernel
theorem dX9_digest_74 : decode cX9_digest 74 = .ok (.iload_n 3, 1) := by decide +kernel
theorem dX9_digest_75 : decode cX9_digest 75 = .ok (.aaload, 1) := by decide +kernel
theorem dX9_digest_76 : decode cX9_digest 76 = .ok (.getfield 149, 3) := by decide +kernel
theorem dX9_digest_79 : decode cX9_digest 79 = .ok (.lload_n 1, 1) := by decide +kernel
theorem dX9_digest_80 : decode cX9_digest 80 = .ok (.aload_n 0, 1) := by decide +kernel
theorem dX9_digest_81 : decode cX9_digest 81 = .ok (.getfield 24, 3) := by decide +kernel
theorem dX9_digest_84 : decode cX9_digest 84 = .ok (.iload_n 3, 1) := by decide +kernel
theorem dX9_digest_85 : decode cX9_digest 85 = .ok (.aaload, 1) := by decide +kernel
theorem dX9_digest_86 : decode cX9_digest 86 = .ok (.getfield 173, 3) := by decide +kernel
theorem dX9_digest_89 : decode cX9_digest 89 = .ok (.invokevirtual 289, 3) := by decide +kernel
theorem dX9_digest_92 : decode cX9_digest 92 = .ok (.lstore_n 1, 1) := by decide +kernel
theorem dX9_digest_93 : decode cX9_digest 93 = .ok (.iinc 3 1, 3) := by decide +kernel
theorem dX9_digest_96 : decode cX9_digest 96 = .ok (.goto (-55), 3) := by decide +kernel
theorem dX9_digest_99 : decode cX9_digest 99 = .ok (.aload_n 0, 1) := by decide +kernel
theorem dX9_digest_100 : decode cX9_digest 100 = .ok (.getfield 35, 3) := by decide +kernel
theorem dX9_digest_103 : decode cX9_digest 103 = .ok (.lload_n 1, 1) := by decide +kernel
theorem dX9_digest_104 : decode cX9_digest 104 = .ok (.invokevirtual 292, 3) := by decide +kernel
theorem dX9_digest_107 : decode cX9_digest 107 = .ok (.lstore_n 1, 1) := by decide +kernel
theorem dX9_digest_108 : decode cX9_digest 108 = .ok (.aload_n 0, 1) := by decide +kernel
theorem dX9_digest_109 : decode cX9_digest 109 = .ok (.getfield 42, 3) := by decide +kernel
theorem dX9_digest_112 : decode cX9_digest 112 = .ok (.getfield 160, 3) := by decide +kernel
theorem dX9_digest_115 : decode cX9_digest 115 = .ok (.invokevirtual 223, 3) := by decide +kernel
theorem dX9_digest_118 : decode cX9_digest 118 = .ok (.istore_n 3, 1) := by decide +kernel
theorem dX9_digest_119 : decode cX9_digest 119 = .ok (.aload_n 0, 1) := by decide +kernel
theorem dX9_digest_120 : decode cX9_digest 120 = .ok (.getfield 42, 3) := by decide +kernel
theorem dX9_digest_123 : decode cX9_digest 123 = .ok (.getfield 163, 3) := by decide +kernel
theorem dX9_digest_126 : decode cX9_digest 126 = .ok (.invokevirtual 223, 3) := by decide +kernel
theorem dX9_digest_129 : decode cX9_digest 129 = .ok (.istore 4, 2) := by decide +kernel
theorem dX9_digest_131 : decode cX9_digest 131 = .ok (.lload_n 1, 1) := by decide +kernel
theorem dX9_digest_132 : decode cX9_digest 132 = .ok (.iload_n 3, 1) := by decide +kernel
theorem dX9_digest_133 : decode cX9_digest 133 = .ok (.i2l, 1) := by decide +kernel
theorem dX9_digest_134 : decode cX9_digest 134 = .ok (.invokestatic 281, 3) := by decide +kernel
theorem dX9_digest_137 : decode cX9_digest 137 = .ok (.iload 4, 2) := by decide +kernel
theorem dX9_digest_139 : decode cX9_digest 139 = .ok (.i2l, 1) := by decide +kernel
theorem dX9_digest_140 : decode cX9_digest 140 = .ok (.invokestatic 281, 3) := by decide +kernel
theorem dX9_digest_143 : decode cX9_digest 143 = .ok (.lstore_n 1, 1) := by decide +kernel
theorem dX9_digest_144 : decode cX9_digest 144 = .ok (.aload_n 0, 1) := by decide +kernel
theorem dX9_digest_145 : decode cX9_digest 145 = .ok (.getfield 42, 3) := by decide +kernel
theorem dX9_digest_148 : decode cX9_digest 148 = .ok (.getfield 160, 3) := by decide +kernel
theorem dX9_digest_151 : decode cX9_digest 151 = .ok (.lload_n 1, 1) := by decide +kernel
theorem dX9_digest_152 : decode cX9_digest 152 = .ok (.iload_n 3, 1) := by decide +kernel
theorem dX9_digest_153 : decode cX9_digest 153 = .ok (.invokevirtual 289, 3) := by decide +kernel
theorem dX9_digest_156 : decode cX9_digest 156 = .ok (.lstore_n 1, 1) := by decide +kernel
theorem dX9_digest_157 : decode cX9_digest 157 = .ok (.aload_n 0, 1) := by decide +kernel
theorem dX9_digest_158 : decode cX9_digest 158 = .ok (.getfield 42, 3) := by decide +kernel
theorem dX9_digest_161 : decode cX9_digest 161 = .ok (.getfield 163, 3) := by decide +kernel
theorem dX9_digest_164 : decode cX9_digest 164 = .ok (.lload_n 1, 1) := by decide +kernel
theorem dX9_digest_165 : decode cX9_digest 165 = .ok (.iload 4, 2) := by decide +kernel
theorem dX9_digest_167 : decode cX9_digest 167 = .ok (.invokevirtual 289, 3) := by decide +kernel
theorem dX9_digest_170 : decode cX9_digest 170 = .ok (.lreturn, 1) := by decide +kernel
theorem dX9_mixed_0 : decode cX9_mixed 0 = .ok (.ldc2_w 293, 3) := by decide +kernel
theorem dX9_mixed_3 : decode cX9_mixed 3 = .ok (.lload_n 0, 1) := by decide +kernel
theorem dX9_mixed_4 : decode cX9_mixed 4 = .ok (.lmul, 1) := by decide +kernel
theorem dX9_mixed_5 : decode cX9_mixed 5 = .ok (.lload_n 2, 1) := by decide +kernel
theorem dX9_mixed_6 : decode cX9_mixed 6 = .ok (.ladd, 1) := by decide +kernel
theorem dX9_mixed_7 : decode cX9_mixed 7 = .ok (.lreturn, 1) := by decide +kernel
theorem dX9_isAllowedPrime_0 : decode cX9_isAllowedPrime 0 = .ok (.iload_n 0, 1) := by decide +kernel
theorem dX9_isAllowedPrime_1 : decode cX9_isAllowedPrime 1 = .ok (.iconst 2, 1) := by decide +kernel
theorem dX9_isAllowedPrime_2 : decode cX9_isAllowedPrime 2 = .ok (.if_icmp .lt 10, 3) := by decide +kernel
theorem dX9_isAllowedPrime_5 : decode cX9_isAllowedPrime 5 = .ok (.iload_n 0, 1) := by decide +kernel
theorem dX9_isAllowedPrime_6 : decode cX9_isAllowedPrime 6 = .ok (.sipush 30011, 3) := by decide +kernel
theorem dX9_isAllowedPrime_9 : decode cX9_isAllowedPrime 9 = .ok (.if_icmp .le 5, 3) := by decide +kernel
theorem dX9_isAllowedPrime_12 : decode cX9_isAllowedPrime 12 = .ok (.iconst 0, 1) := by decide +kernel
theorem dX9_isAllowedPrime_13 : decode cX9_isAllowedPrime 13 = .ok (.ireturn, 1) := by decide +kernel
theorem dX9_isAllowedPrime_14 : decode cX9_isAllowedPrime 14 = .ok (.iconst 2, 1) := by decide +kernel
theorem dX9_isAllowedPrime_15 : decode cX9_isAllowedPrime 15 = .ok (.istore_n 1, 1) := by decide +kernel
theorem dX9_isAllowedPrime_16 : decode cX9_isAllowedPrime 16 = .ok (.iload_n 1, 1) := by decide +kernel
theorem dX9_isAllowedPrime_17 : decode cX9_isAllowedPrime 17 = .ok (.iload_n 1, 1) := by decide +kernel
theorem dX9_isAllowedPrime_18 : decode cX9_isAllowedPrime 18 = .ok (.imul, 1) := by decide +kernel
theorem dX9_isAllowedPrime_19 : decode cX9_isAllowedPrime 19 = .ok (.iload_n 0, 1) := by decide +kernel
theorem dX9_isAllowedPrime_20 : decode cX9_isAllowedPrime 20 = .ok (.if_icmp .gt 17, 3) := by decide +kernel
theorem dX9_isAllowedPrime_23 : decode cX9_isAllowedPrime 23 = .ok (.iload_n 0, 1) := by decide +kernel
theorem dX9_isAllowedPrime_24 : decode cX9_isAllowedPrime 24 = .ok (.iload_n 1, 1) := by decide +kernel
theorem dX9_isAllowedPrime_25 : decode cX9_isAllowedPrime 25 = .ok (.irem, 1) := by decide +kernel
theorem dX9_isAllowedPrime_26 : decode cX9_isAllowedPrime 26 = .ok (.ifCond .ne 5, 3) := by decide +kernel
theorem dX9_isAllowedPrime_29 : decode cX9_isAllowedPrime 29 = .ok (.iconst 0, 1) := by decide +kernel
theorem dX9_isAllowedPrime_30 : decode cX9_isAllowedPrime 30 = .ok (.ireturn, 1) := by decide +kernel
theorem dX9_isAllowedPrime_31 : decode cX9_isAllowedPrime 31 = .ok (.iinc 1 1, 3) := by decide +kernel
theorem dX9_isAllowedPrime_34 : decode cX9_isAllowedPrime 34 = .ok (.goto (-18), 3) := by decide +kernel
theorem dX9_isAllowedPrime_37 : decode cX9_isAllowedPrime 37 = .ok (.iconst 1, 1) := by decide +kernel
theorem dX9_isAllowedPrime_38 : decode cX9_isAllowedPrime 38 = .ok (.ireturn, 1) := by decide +kernel
theorem dX9_isLane_0 : decode cX9_isLane 0 = .ok (.iload_n 0, 1) := by decide +kernel
theorem dX9_isLane_1 : decode cX9_isLane 1 = .ok (.ifCond .lt 12, 3) := by decide +kernel
theorem dX9_isLane_4 : decode cX9_isLane 4 = .ok (.iload_n 0, 1) := by decide +kernel
theorem dX9_isLane_5 : decode cX9_isLane 5 = .ok (.iconst 4, 1) := by decide +kernel
theorem dX9_isLane_6 : decode cX9_isLane 6 = .ok (.if_icmp .ge 7, 3) := by decide +kernel
theorem dX9_isLane_9 : decode cX9_isLane 9 = .ok (.iconst 1, 1) := by decide +kernel
theorem dX9_isLane_10 : decode cX9_isLane 10 = .ok (.goto 4, 3) := by decide +kernel
theorem dX9_isLane_13 : decode cX9_isLane 13 = .ok (.iconst 0, 1) := by decide +kernel
theorem dX9_isLane_14 : decode cX9_isLane 14 = .ok (.ireturn, 1) := by decide +kernel
theorem dX9_isLength_0 : decode cX9_isLength 0 = .ok (.iload_n 0, 1) := by decide +kernel
theorem dX9_isLength_1 : decode cX9_isLength 1 = .ok (.ifCond .lt 13, 3) := by decide +kernel
theorem dX9_isLength_4 : decode cX9_isLength 4 = .ok (.iload_n 0, 1) := by decide +kernel
theorem dX9_isLength_5 : decode cX9_isLength 5 = .ok (.bipush 40, 2) := by decide +kernel
theorem dX9_isLength_7 : decode cX9_isLength 7 = .ok (.if_icmp .gt 7, 3) := by decide +kernel
theorem dX9_isLength_10 : decode cX9_isLength 10 = .ok (.iconst 1, 1) := by decide +kernel
theorem dX9_isLength_11 : decode cX9_isLength 11 = .ok (.goto 4, 3) := by decide +kernel
theorem dX9_isLength_14 : decode cX9_isLength 14 = .ok (.iconst 0, 1) := by decide +kernel
theorem dX9_isLength_15 : decode cX9_isLength 15 = .ok (.ireturn, 1) := by decide +kernel
theorem dX9_isPairOf_0 : decode cX9_isPairOf 0 = .ok (.iload_n 1, 1) := by decide +kernel
theorem dX9_isPairOf_1 : decode cX9_isPairOf 1 = .ok (.ifCond .lt 21, 3) := by decide +kernel
theorem dX9_isPairOf_4 : decode cX9_isPairOf 4 = .ok (.iload_n 2, 1) := by decide +kernel
theorem dX9_isPairOf_5 : decode cX9_isPairOf 5 = .ok (.ifCond .lt 17, 3) := by decide +kernel
theorem dX9_isPairOf_8 : decode cX9_isPairOf 8 = .ok (.iload_n 1, 1) := by decide +kernel
theorem dX9_isPairOf_9 : decode cX9_isPairOf 9 = .ok (.aload_n 0, 1) := by decide +kernel
theorem dX9_isPairOf_10 : decode cX9_isPairOf 10 = .ok (.getfield 173, 3) := by decide +kernel
theorem dX9_isPairOf_13 : decode cX9_isPairOf 13 = .ok (.iload_n 2, 1) := by decide +kernel
theorem dX9_isPairOf_14 : decode cX9_isPairOf 14 = .ok (.isub, 1) := by decide +kernel
theorem dX9_isPairOf_15 : decode cX9_isPairOf 15 = .ok (.if_icmp .gt 7, 3) := by decide +kernel
theorem dX9_isPairOf_18 : decode cX9_isPairOf 18 = .ok (.iconst 1, 1) := by decide +kernel
theorem dX9_isPairOf_19 : decode cX9_isPairOf 19 = .ok (.goto 4, 3) := by decide +kernel
theorem dX9_isPairOf_22 : decode cX9_isPairOf 22 = .ok (.iconst 0, 1) := by decide +kernel
theorem dX9_isPairOf_23 : decode cX9_isPairOf 23 = .ok (.ireturn, 1) := by decide +kernel
theorem dX9_caused_0 : decode cX9_caused 0 = .ok (.iload_n 1, 1) := by decide +kernel
theorem dX9_caused_1 : decode cX9_caused 1 = .ok (.iconst 1, 1) := by decide +kernel
theorem dX9_caused_2 : decode cX9_caused 2 = .ok (.if_icmp .lt 23, 3) := by decide +kernel
theorem dX9_caused_5 : decode cX9_caused 5 = .ok (.iload_n 1, 1) := by decide +kernel
theorem dX9_caused_6 : decode cX9_caused 6 = .ok (.iconst 5, 1) := by decide +kernel
theorem dX9_caused_7 : decode cX9_caused 7 = .ok (.if_icmp .gt 18, 3) := by decide +kernel
theorem dX9_caused_10 : decode cX9_caused 10 = .ok (.aload_n 0, 1) := by decide +kernel
theorem dX9_caused_11 : decode cX9_caused 11 = .ok (.iload_n 1, 1) := by decide +kernel
theorem dX9_caused_12 : decode cX9_caused 12 = .ok (.putfield 81, 3) := by decide +kernel
theorem dX9_caused_15 : decode cX9_caused 15 = .ok (.aload_n 0, 1) := by decide +kernel
theorem dX9_caused_16 : decode cX9_caused 16 = .ok (.getfield 77, 3) := by decide +kernel
theorem dX9_caused_19 : decode cX9_caused 19 = .ok (.iload_n 1, 1) := by decide +kernel
theorem dX9_caused_20 : decode cX9_caused 20 = .ok (.dup2, 1) := by decide +kernel
theorem dX9_caused_21 : decode cX9_caused 21 = .ok (.iaload, 1) := by decide +kernel
theorem dX9_caused_22 : decode cX9_caused 22 = .ok (.iconst 1, 1) := by decide +kernel
theorem dX9_caused_23 : decode cX9_caused 23 = .ok (.iadd, 1) := by decide +kernel
theorem dX9_caused_24 : decode cX9_caused 24 = .ok (.iastore, 1) := by decide +kernel
theorem dX9_caused_25 : decode cX9_caused 25 = .ok (.bipush (-10), 2) := by decide +kernel
theorem dX9_caused_27 : decode cX9_caused 27 = .ok (.iload_n 1, 1) := by decide +kernel
theorem dX9_caused_28 : decode cX9_caused 28 = .ok (.isub, 1) := by decide +kernel
theorem dX9_caused_29 : decode cX9_caused 29 = .ok (.ireturn, 1) := by decide +kernel
theorem dX9_sheetNumbered_0 : decode cX9_sheetNumbered 0 = .ok (.iload_n 1, 1) := by decide +kernel
theorem dX9_sheetNumbered_1 : decode cX9_sheetNumbered 1 = .ok (.ifCond .lt 17, 3) := by decide +kernel
theorem dX9_sheetNumbered_4 : decode cX9_sheetNumbered 4 = .ok (.iload_n 1, 1) := by decide +kernel
theorem dX9_sheetNumbered_5 : decode cX9_sheetNumbered 5 = .ok (.iconst 4, 1) := by decide +kernel
theorem dX9_sheetNumbered_6 : decode cX9_sheetNumbered 6 = .ok (.if_icmp .ge 12, 3) := by decide +kernel
theorem dX9_sheetNumbered_9 : decode cX9_sheetNumbered 9 = .ok (.aload_n 0, 1) := by decide +kernel
theorem dX9_sheetNumbered_10 : decode cX9_sheetNumbered 10 = .ok (.getfield 18, 3) := by decide +kernel
theorem dX9_sheetNumbered_13 : decode cX9_sheetNumbered 13 = .ok (.iload_n 1, 1) := by decide +kernel
theorem dX9_sheetNumbered_14 : decode cX9_sheetNumbered 14 = .ok (.aaload, 1) := by decide +kernel
theorem dX9_sheetNumbered_15 : decode cX9_sheetNumbered 15 = .ok (.goto 4, 3) := by decide +kernel
theorem dX9_sheetNumbered_18 : decode cX9_sheetNumbered 18 = .ok (.aconst_null, 1) := by decide +kernel
theorem dX9_sheetNumbered_19 : decode cX9_sheetNumbered 19 = .ok (.areturn, 1) := by decide +kernel
theorem dX9_presentSheets_0 : decode cX9_presentSheets 0 = .ok (.iconst 0, 1) := by decide +kernel
theorem dX9_presentSheets_1 : decode cX9_presentSheets 1 = .ok (.istore_n 1, 1) := by decide +kernel
theorem dX9_presentSheets_2 : decode cX9_presentSheets 2 = .ok (.iconst 0, 1) := by decide +kernel
theorem dX9_presentSheets_3 : decode cX9_presentSheets 3 = .ok (.istore_n 2, 1) := by decide +kernel
theorem dX9_presentSheets_4 : decode cX9_presentSheets 4 = .ok (.iload_n 2, 1) := by decide +kernel
theorem dX9_presentSheets_5 : decode cX9_presentSheets 5 = .ok (.iconst 4, 1) := by decide +kernel
theorem dX9_presentSheets_6 : decode cX9_presentSheets 6 = .ok (.if_icmp .ge 24, 3) := by decide +kernel
theorem dX9_presentSheets_9 : decode cX9_presentSheets 9 = .ok (.aload_n 0, 1) := by decide +kernel
theorem dX9_presentSheets_10 : decode cX9_presentSheets 10 = .ok (.getfield 18, 3) := by decide +kernel
theorem dX9_presentSheets_13 : decode cX9_presentSheets 13 = .ok (.iload_n 2, 1) := by decide +kernel
theorem dX9_presentSheets_14 : decode cX9_presentSheets 14 = .ok (.aaload, 1) := by decide +kernel
theorem dX9_presentSheets_15 : decode cX9_presentSheets 15 = .ok (.getfield 114, 3) := by decide +kernel
theorem dX9_presentSheets_18 : decode cX9_presentSheets 18 = .ok (.ifCond .ne 6, 3) := by decide +kernel
theorem dX9_presentSheets_21 : decode cX9_presentSheets 21 = .ok (.iinc 1 1, 3) := by decide +kernel
theorem dX9_presentSheets_24 : decode cX9_presentSheets 24 = .ok (.iinc 2 1, 3) := by decide +kernel
theorem dX9_presentSheets_27 : decode cX9_presentSheets 27 = .ok (.goto (-23), 3) := by decide +kernel
theorem dX9_presentSheets_30 : decode cX9_presentSheets 30 = .ok (.iload_n 1, 1) := by decide +kernel
theorem dX9_presentSheets_31 : decode cX9_presentSheets 31 = .ok (.ireturn, 1) := by decide +kernel
theorem dX9_seriesNumbered_0 : decode cX9_seriesNumbered 0 = .ok (.iload_n 1, 1) := by decide +kernel
theorem dX9_seriesNumbered_1 : decode cX9_seriesNumbered 1 = .ok (.ifCond .lt 26, 3) := by decide +kernel
theorem dX9_seriesNumbered_4 : decode cX9_seriesNumbered 4 = .ok (.iload_n 1, 1) := by decide +kernel
theorem dX9_seriesNumbered_5 : decode cX9_seriesNumbered 5 = .ok (.aload_n 0, 1) := by decide +kernel
theorem dX9_seriesNumbered_6 : decode cX9_seriesNumbered 6 = .ok (.getfield 28, 3) := by decide +kernel
theorem dX9_seriesNumbered_9 : decode cX9_seriesNumbered 9 = .ok (.if_icmp .ge 18, 3) := by decide +kernel
theorem dX9_seriesNumbered_12 : decode cX9_seriesNumbered 12 = .ok (.iload_n 1, 1) := by decide +kernel
theorem dX9_seriesNumbered_13 : decode cX9_seriesNumbered 13 = .ok (.bipush 10, 2) := by decide +kernel
theorem dX9_seriesNumbered_15 : decode cX9_seriesNumbered 15 = .ok (.if_icmp .ge 12, 3) := by decide +kernel
theorem dX9_seriesNumbered_18 : decode cX9_seriesNumbered 18 = .ok (.aload_n 0, 1) := by decide +kernel
theorem dX9_seriesNumbered_19 : decode cX9_seriesNumbered 19 = .ok (.getfield 24, 3) := by decide +kernel
theorem dX9_seriesNumbered_22 : decode cX9_seriesNumbered 22 = .ok (.iload_n 1, 1) := by decide +kernel
theorem dX9_seriesNumbered_23 : decode cX9_seriesNumbered 23 = .ok (.aaload, 1) := by decide +kernel
theorem dX9_seriesNumbered_24 : decode cX9_seriesNumbered 24 = .ok (.goto 4, 3) := by decide +kernel
theorem dX9_seriesNumbered_27 : decode cX9_seriesNumbered 27 = .ok (.aconst_null, 1) := by decide +kernel
theorem dX9_seriesNumbered_28 : decode cX9_seriesNumbered 28 = .ok (.areturn, 1) := by decide +kernel
theorem dX9_freshSeries_0 : decode cX9_freshSeries 0 = .ok (.aload_n 0, 1) := by decide +kernel
theorem dX9_freshSeries_1 : decode cX9_freshSeries 1 = .ok (.getfield 28, 3) := by decide +kernel
theorem dX9_freshSeries_4 : decode cX9_freshSeries 4 = .ok (.bipush 10, 2) := by decide +kernel
theorem dX9_freshSeries_6 : decode cX9_freshSeries 6 = .ok (.if_icmp .lt 5, 3) := by decide +kernel
theorem dX9_freshSeries_9 : decode cX9_freshSeries 9 = .ok (.aconst_null, 1) := by decide +kernel
theorem dX9_freshSeries_10 : decode cX9_freshSeries 10 = .ok (.areturn, 1) := by decide +kernel
theorem dX9_freshSeries_11 : decode cX9_freshSeries 11 = .ok (.aload_n 0, 1) := by decide +kernel
theorem dX9_freshSeries_12 : decode cX9_freshSeries 12 = .ok (.getfield 24, 3) := by decide +kernel
theorem dX9_freshSeries_15 : decode cX9_freshSeries 15 = .ok (.aload_n 0, 1) := by decide +kernel
theorem dX9_freshSeries_16 : decode cX9_freshSeries 16 = .ok (.getfield 28, 3) := by decide +kernel
theorem dX9_freshSeries_19 : decode cX9_freshSeries 19 = .ok (.aaload, 1) := by decide +kernel
theorem dX9_freshSeries_20 : decode cX9_freshSeries 20 = .ok (.astore_n 2, 1) := by decide +kernel
theorem dX9_freshSeries_21 : decode cX9_freshSeries 21 = .ok (.aload_n 2, 1) := by decide +kernel
theorem dX9_freshSeries_22 : decode cX9_freshSeries 22 = .ok (.iload_n 1, 1) := by decide +kernel
theorem dX9_freshSeries_23 : decode cX9_freshSeries 23 = .ok (.putfield 173, 3) := by decide +kernel
theorem dX9_freshSeries_26 : decode cX9_freshSeries 26 = .ok (.aload_n 2, 1) := by decide +kernel
theorem dX9_freshSeries_27 : decode cX9_freshSeries 27 = .ok (.getfield 149, 3) := by decide +kernel
theorem dX9_freshSeries_30 : decode cX9_freshSeries 30 = .ok (.iconst 0, 1) := by decide +kernel
theorem dX9_freshSeries_31 : decode cX9_freshSeries 31 = .ok (.invokevirtual 192, 3) := by decide +kernel
theorem dX9_freshSeries_34 : decode cX9_freshSeries 34 = .ok (.aload_n 2, 1) := by decide +kernel
theorem dX9_freshSeries_35 : decode cX9_freshSeries 35 = .ok (.areturn, 1) := by decide +kernel
theorem dX9_keepFresh_0 : decode cX9_keepFresh 0 = .ok (.aload_n 0, 1) := by decide +kernel
theorem dX9_keepFresh_1 : decode cX9_keepFresh 1 = .ok (.dup, 1) := by decide +kernel
theorem dX9_keepFresh_2 : decode cX9_keepFresh 2 = .ok (.getfield 28, 3) := by decide +kernel
theorem dX9_keepFresh_5 : decode cX9_keepFresh 5 = .ok (.iconst 1, 1) := by decide +kernel
theorem dX9_keepFresh_6 : decode cX9_keepFresh 6 = .ok (.iadd, 1) := by decide +kernel
theorem dX9_keepFresh_7 : decode cX9_keepFresh 7 = .ok (.putfield 28, 3) := by decide +kernel
theorem dX9_keepFresh_10 : decode cX9_keepFresh 10 = .ok (.aload_n 0, 1) := by decide +kernel
theorem dX9_keepFresh_11 : decode cX9_keepFresh 11 = .ok (.getfield 28, 3) := by decide +kernel
theorem dX9_keepFresh_14 : decode cX9_keepFresh 14 = .ok (.iconst 1, 1) := by decide +kernel
theorem dX9_keepFresh_15 : decode cX9_keepFresh 15 = .ok (.isub, 1) := by decide +kernel
theorem dX9_keepFresh_16 : decode cX9_keepFresh 16 = .ok (.ireturn, 1) := by decide +kernel
