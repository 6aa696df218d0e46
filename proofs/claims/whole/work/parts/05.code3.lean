theorem dX9_keepUnfolded_0 : decode cX9_keepUnfolded 0 = .ok (.aload_n 1, 1) := by decide +kernel
theorem dX9_keepUnfolded_1 : decode cX9_keepUnfolded 1 = .ok (.getfield 163, 3) := by decide +kernel
theorem dX9_keepUnfolded_4 : decode cX9_keepUnfolded 4 = .ok (.iconst 0, 1) := by decide +kernel
theorem dX9_keepUnfolded_5 : decode cX9_keepUnfolded 5 = .ok (.invokevirtual 186, 3) := by decide +kernel
theorem dX9_keepUnfolded_8 : decode cX9_keepUnfolded 8 = .ok (.ifCond .ne 9, 3) := by decide +kernel
theorem dX9_keepUnfolded_11 : decode cX9_keepUnfolded 11 = .ok (.aload_n 0, 1) := by decide +kernel
theorem dX9_keepUnfolded_12 : decode cX9_keepUnfolded 12 = .ok (.iconst 5, 1) := by decide +kernel
theorem dX9_keepUnfolded_13 : decode cX9_keepUnfolded 13 = .ok (.invokevirtual 106, 3) := by decide +kernel
theorem dX9_keepUnfolded_16 : decode cX9_keepUnfolded 16 = .ok (.ireturn, 1) := by decide +kernel
theorem dX9_keepUnfolded_17 : decode cX9_keepUnfolded 17 = .ok (.aload_n 0, 1) := by decide +kernel
theorem dX9_keepUnfolded_18 : decode cX9_keepUnfolded 18 = .ok (.iload_n 2, 1) := by decide +kernel
theorem dX9_keepUnfolded_19 : decode cX9_keepUnfolded 19 = .ok (.invokevirtual 145, 3) := by decide +kernel
theorem dX9_keepUnfolded_22 : decode cX9_keepUnfolded 22 = .ok (.astore_n 3, 1) := by decide +kernel
theorem dX9_keepUnfolded_23 : decode cX9_keepUnfolded 23 = .ok (.aload_n 3, 1) := by decide +kernel
theorem dX9_keepUnfolded_24 : decode cX9_keepUnfolded 24 = .ok (.ifnonnull 6, 3) := by decide +kernel
theorem dX9_keepUnfolded_27 : decode cX9_keepUnfolded 27 = .ok (.bipush (-104), 2) := by decide +kernel
theorem dX9_keepUnfolded_29 : decode cX9_keepUnfolded 29 = .ok (.ireturn, 1) := by decide +kernel
theorem dX9_keepUnfolded_30 : decode cX9_keepUnfolded 30 = .ok (.aload_n 1, 1) := by decide +kernel
theorem dX9_keepUnfolded_31 : decode cX9_keepUnfolded 31 = .ok (.aload_n 3, 1) := by decide +kernel
theorem dX9_keepUnfolded_32 : decode cX9_keepUnfolded 32 = .ok (.getfield 149, 3) := by decide +kernel
theorem dX9_keepUnfolded_35 : decode cX9_keepUnfolded 35 = .ok (.iload_n 2, 1) := by decide +kernel
theorem dX9_keepUnfolded_36 : decode cX9_keepUnfolded 36 = .ok (.aload_n 0, 1) := by decide +kernel
theorem dX9_keepUnfolded_37 : decode cX9_keepUnfolded 37 = .ok (.getfield 12, 3) := by decide +kernel
theorem dX9_keepUnfolded_40 : decode cX9_keepUnfolded 40 = .ok (.invokevirtual 295, 3) := by decide +kernel
theorem dX9_keepUnfolded_43 : decode cX9_keepUnfolded 43 = .ok (.aload_n 0, 1) := by decide +kernel
theorem dX9_keepUnfolded_44 : decode cX9_keepUnfolded 44 = .ok (.invokevirtual 156, 3) := by decide +kernel
theorem dX9_keepUnfolded_47 : decode cX9_keepUnfolded 47 = .ok (.ireturn, 1) := by decide +kernel
theorem dX9_readTerms_0 : decode cX9_readTerms 0 = .ok (.aload 4, 2) := by decide +kernel
theorem dX9_readTerms_2 : decode cX9_readTerms 2 = .ok (.iconst 0, 1) := by decide +kernel
theorem dX9_readTerms_3 : decode cX9_readTerms 3 = .ok (.invokevirtual 192, 3) := by decide +kernel
theorem dX9_readTerms_6 : decode cX9_readTerms 6 = .ok (.iconst 0, 1) := by decide +kernel
theorem dX9_readTerms_7 : decode cX9_readTerms 7 = .ok (.istore 5, 2) := by decide +kernel
theorem dX9_readTerms_9 : decode cX9_readTerms 9 = .ok (.iload 5, 2) := by decide +kernel
theorem dX9_readTerms_11 : decode cX9_readTerms 11 = .ok (.iload_n 3, 1) := by decide +kernel
theorem dX9_readTerms_12 : decode cX9_readTerms 12 = .ok (.if_icmp .ge 31, 3) := by decide +kernel
theorem dX9_readTerms_15 : decode cX9_readTerms 15 = .ok (.aload 4, 2) := by decide +kernel
theorem dX9_readTerms_17 : decode cX9_readTerms 17 = .ok (.iload 5, 2) := by decide +kernel
theorem dX9_readTerms_19 : decode cX9_readTerms 19 = .ok (.aload_n 0, 1) := by decide +kernel
theorem dX9_readTerms_20 : decode cX9_readTerms 20 = .ok (.getfield 12, 3) := by decide +kernel
theorem dX9_readTerms_23 : decode cX9_readTerms 23 = .ok (.aload_n 1, 1) := by decide +kernel
theorem dX9_readTerms_24 : decode cX9_readTerms 24 = .ok (.iload_n 2, 1) := by decide +kernel
theorem dX9_readTerms_25 : decode cX9_readTerms 25 = .ok (.iload 5, 2) := by decide +kernel
theorem dX9_readTerms_27 : decode cX9_readTerms 27 = .ok (.iadd, 1) := by decide +kernel
theorem dX9_readTerms_28 : decode cX9_readTerms 28 = .ok (.invokevirtual 299, 3) := by decide +kernel
theorem dX9_readTerms_31 : decode cX9_readTerms 31 = .ok (.invokevirtual 182, 3) := by decide +kernel
theorem dX9_readTerms_34 : decode cX9_readTerms 34 = .ok (.invokevirtual 189, 3) := by decide +kernel
theorem dX9_readTerms_37 : decode cX9_readTerms 37 = .ok (.iinc 5 1, 3) := by decide +kernel
theorem dX9_readTerms_40 : decode cX9_readTerms 40 = .ok (.goto (-31), 3) := by decide +kernel
theorem dX9_readTerms_43 : decode cX9_readTerms 43 = .ok (.return_, 1) := by decide +kernel
theorem dX9_findEntry_0 : decode cX9_findEntry 0 = .ok (.aload_n 0, 1) := by decide +kernel
theorem dX9_findEntry_1 : decode cX9_findEntry 1 = .ok (.getfield 52, 3) := by decide +kernel
theorem dX9_findEntry_4 : decode cX9_findEntry 4 = .ok (.getfield 246, 3) := by decide +kernel
theorem dX9_findEntry_7 : decode cX9_findEntry 7 = .ok (.iconst 0, 1) := by decide +kernel
theorem dX9_findEntry_8 : decode cX9_findEntry 8 = .ok (.invokevirtual 192, 3) := by decide +kernel
theorem dX9_findEntry_11 : decode cX9_findEntry 11 = .ok (.aload_n 0, 1) := by decide +kernel
theorem dX9_findEntry_12 : decode cX9_findEntry 12 = .ok (.getfield 52, 3) := by decide +kernel
theorem dX9_findEntry_15 : decode cX9_findEntry 15 = .ok (.getfield 246, 3) := by decide +kernel
theorem dX9_findEntry_18 : decode cX9_findEntry 18 = .ok (.iload_n 2, 1) := by decide +kernel
theorem dX9_findEntry_19 : decode cX9_findEntry 19 = .ok (.iload_n 3, 1) := by decide +kernel
theorem dX9_findEntry_20 : decode cX9_findEntry 20 = .ok (.iadd, 1) := by decide +kernel
theorem dX9_findEntry_21 : decode cX9_findEntry 21 = .ok (.iconst 1, 1) := by decide +kernel
theorem dX9_findEntry_22 : decode cX9_findEntry 22 = .ok (.iadd, 1) := by decide +kernel
theorem dX9_findEntry_23 : decode cX9_findEntry 23 = .ok (.iconst 1, 1) := by decide +kernel
theorem dX9_findEntry_24 : decode cX9_findEntry 24 = .ok (.invokevirtual 189, 3) := by decide +kernel
theorem dX9_findEntry_27 : decode cX9_findEntry 27 = .ok (.aload_n 0, 1) := by decide +kernel
theorem dX9_findEntry_28 : decode cX9_findEntry 28 = .ok (.getfield 52, 3) := by decide +kernel
theorem dX9_findEntry_31 : decode cX9_findEntry 31 = .ok (.getfield 248, 3) := by decide +kernel
theorem dX9_findEntry_34 : decode cX9_findEntry 34 = .ok (.iconst 0, 1) := by decide +kernel
theorem dX9_findEntry_35 : decode cX9_findEntry 35 = .ok (.invokevirtual 192, 3) := by decide +kernel
theorem dX9_findEntry_38 : decode cX9_findEntry 38 = .ok (.iconst 0, 1) := by decide +kernel
theorem dX9_findEntry_39 : decode cX9_findEntry 39 = .ok (.istore 5, 2) := by decide +kernel
theorem dX9_findEntry_41 : decode cX9_findEntry 41 = .ok (.iload 5, 2) := by decide +kernel
theorem dX9_findEntry_43 : decode cX9_findEntry 43 = .ok (.iload_n 2, 1) := by decide +kernel
theorem dX9_findEntry_44 : decode cX9_findEntry 44 = .ok (.iload_n 3, 1) := by decide +kernel
theorem dX9_findEntry_45 : decode cX9_findEntry 45 = .ok (.iadd, 1) := by decide +kernel
theorem dX9_findEntry_46 : decode cX9_findEntry 46 = .ok (.if_icmp .gt 30, 3) := by decide +kernel
theorem dX9_findEntry_49 : decode cX9_findEntry 49 = .ok (.aload_n 0, 1) := by decide +kernel
theorem dX9_findEntry_50 : decode cX9_findEntry 50 = .ok (.getfield 52, 3) := by decide +kernel
theorem dX9_findEntry_53 : decode cX9_findEntry 53 = .ok (.getfield 248, 3) := by decide +kernel
theorem dX9_findEntry_56 : decode cX9_findEntry 56 = .ok (.iload 5, 2) := by decide +kernel
theorem dX9_findEntry_58 : decode cX9_findEntry 58 = .ok (.aload_n 1, 1) := by decide +kernel
theorem dX9_findEntry_59 : decode cX9_findEntry 59 = .ok (.getfield 149, 3) := by decide +kernel
theorem dX9_findEntry_62 : decode cX9_findEntry 62 = .ok (.iload 5, 2) := by decide +kernel
theorem dX9_findEntry_64 : decode cX9_findEntry 64 = .ok (.invokevirtual 186, 3) := by decide +kernel
theorem dX9_findEntry_67 : decode cX9_findEntry 67 = .ok (.invokevirtual 189, 3) := by decide +kernel
theorem dX9_findEntry_70 : decode cX9_findEntry 70 = .ok (.iinc 5 1, 3) := by decide +kernel
theorem dX9_findEntry_73 : decode cX9_findEntry 73 = .ok (.goto (-32), 3) := by decide +kernel
theorem dX9_findEntry_76 : decode cX9_findEntry 76 = .ok (.aload_n 0, 1) := by decide +kernel
theorem dX9_findEntry_77 : decode cX9_findEntry 77 = .ok (.getfield 52, 3) := by decide +kernel
theorem dX9_findEntry_80 : decode cX9_findEntry 80 = .ok (.iload_n 2, 1) := by decide +kernel
theorem dX9_findEntry_81 : decode cX9_findEntry 81 = .ok (.aload 4, 2) := by decide +kernel
theorem dX9_findEntry_83 : decode cX9_findEntry 83 = .ok (.aload_n 0, 1) := by decide +kernel
theorem dX9_findEntry_84 : decode cX9_findEntry 84 = .ok (.getfield 12, 3) := by decide +kernel
theorem dX9_findEntry_87 : decode cX9_findEntry 87 = .ok (.invokevirtual 255, 3) := by decide +kernel
theorem dX9_findEntry_90 : decode cX9_findEntry 90 = .ok (.return_, 1) := by decide +kernel
theorem dX9_stepDown_0 : decode cX9_stepDown 0 = .ok (.aload_n 0, 1) := by decide +kernel
theorem dX9_stepDown_1 : decode cX9_stepDown 1 = .ok (.getfield 46, 3) := by decide +kernel
theorem dX9_stepDown_4 : decode cX9_stepDown 4 = .ok (.getfield 160, 3) := by decide +kernel
theorem dX9_stepDown_7 : decode cX9_stepDown 7 = .ok (.aload_n 1, 1) := by decide +kernel
theorem dX9_stepDown_8 : decode cX9_stepDown 8 = .ok (.iconst 0, 1) := by decide +kernel
theorem dX9_stepDown_9 : decode cX9_stepDown 9 = .ok (.invokevirtual 186, 3) := by decide +kernel
theorem dX9_stepDown_12 : decode cX9_stepDown 12 = .ok (.invokevirtual 192, 3) := by decide +kernel
theorem dX9_stepDown_15 : decode cX9_stepDown 15 = .ok (.aload_n 0, 1) := by decide +kernel
theorem dX9_stepDown_16 : decode cX9_stepDown 16 = .ok (.getfield 46, 3) := by decide +kernel
theorem dX9_stepDown_19 : decode cX9_stepDown 19 = .ok (.getfield 163, 3) := by decide +kernel
theorem dX9_stepDown_22 : decode cX9_stepDown 22 = .ok (.aload_n 1, 1) := by decide +kernel
theorem dX9_stepDown_23 : decode cX9_stepDown 23 = .ok (.invokevirtual 196, 3) := by decide +kernel
theorem dX9_stepDown_26 : decode cX9_stepDown 26 = .ok (.aload_n 0, 1) := by decide +kernel
theorem dX9_stepDown_27 : decode cX9_stepDown 27 = .ok (.getfield 46, 3) := by decide +kernel
theorem dX9_stepDown_30 : decode cX9_stepDown 30 = .ok (.aload_n 1, 1) := by decide +kernel
theorem dX9_stepDown_31 : decode cX9_stepDown 31 = .ok (.iload_n 2, 1) := by decide +kernel
theorem dX9_stepDown_32 : decode cX9_stepDown 32 = .ok (.aload_n 0, 1) := by decide +kernel
theorem dX9_stepDown_33 : decode cX9_stepDown 33 = .ok (.getfield 12, 3) := by decide +kernel
theorem dX9_stepDown_36 : decode cX9_stepDown 36 = .ok (.invokevirtual 295, 3) := by decide +kernel
theorem dX9_stepDown_39 : decode cX9_stepDown 39 = .ok (.aload_n 1, 1) := by decide +kernel
theorem dX9_stepDown_40 : decode cX9_stepDown 40 = .ok (.invokevirtual 226, 3) := by decide +kernel
theorem dX9_stepDown_43 : decode cX9_stepDown 43 = .ok (.return_, 1) := by decide +kernel
theorem dX9_agreement_0 : decode cX9_agreement 0 = .ok (.aload_n 2, 1) := by decide +kernel
theorem dX9_agreement_1 : decode cX9_agreement 1 = .ok (.aload_n 0, 1) := by decide +kernel
theorem dX9_agreement_2 : decode cX9_agreement 2 = .ok (.getfield 73, 3) := by decide +kernel
theorem dX9_agreement_5 : decode cX9_agreement 5 = .ok (.aload_n 1, 1) := by decide +kernel
theorem dX9_agreement_6 : decode cX9_agreement 6 = .ok (.getfield 173, 3) := by decide +kernel
theorem dX9_agreement_9 : decode cX9_agreement 9 = .ok (.aload_n 0, 1) := by decide +kernel
theorem dX9_agreement_10 : decode cX9_agreement 10 = .ok (.getfield 12, 3) := by decide +kernel
theorem dX9_agreement_13 : decode cX9_agreement 13 = .ok (.invokevirtual 295, 3) := by decide +kernel
theorem dX9_agreement_16 : decode cX9_agreement 16 = .ok (.iconst 0, 1) := by decide +kernel
theorem dX9_agreement_17 : decode cX9_agreement 17 = .ok (.istore_n 3, 1) := by decide +kernel
theorem dX9_agreement_18 : decode cX9_agreement 18 = .ok (.iload_n 3, 1) := by decide +kernel
theorem dX9_agreement_19 : decode cX9_agreement 19 = .ok (.aload_n 1, 1) := by decide +kernel
theorem dX9_agreement_20 : decode cX9_agreement 20 = .ok (.getfield 173, 3) := by decide +kernel
theorem dX9_agreement_23 : decode cX9_agreement 23 = .ok (.if_icmp .gt 28, 3) := by decide +kernel
theorem dX9_agreement_26 : decode cX9_agreement 26 = .ok (.aload_n 0, 1) := by decide +kernel
theorem dX9_agreement_27 : decode cX9_agreement 27 = .ok (.getfield 73, 3) := by decide +kernel
theorem dX9_agreement_30 : decode cX9_agreement 30 = .ok (.iload_n 3, 1) := by decide +kernel
theorem dX9_agreement_31 : decode cX9_agreement 31 = .ok (.invokevirtual 186, 3) := by decide +kernel
theorem dX9_agreement_34 : decode cX9_agreement 34 = .ok (.aload_n 1, 1) := by decide +kernel
theorem dX9_agreement_35 : decode cX9_agreement 35 = .ok (.getfield 149, 3) := by decide +kernel
theorem dX9_agreement_38 : decode cX9_agreement 38 = .ok (.iload_n 3, 1) := by decide +kernel
theorem dX9_agreement_39 : decode cX9_agreement 39 = .ok (.invokevirtual 186, 3) := by decide +kernel
theorem dX9_agreement_42 : decode cX9_agreement 42 = .ok (.if_icmp .ne 9, 3) := by decide +kernel
theorem dX9_agreement_45 : decode cX9_agreement 45 = .ok (.iinc 3 1, 3) := by decide +kernel
theorem dX9_agreement_48 : decode cX9_agreement 48 = .ok (.goto (-30), 3) := by decide +kernel
theorem dX9_agreement_51 : decode cX9_agreement 51 = .ok (.iload_n 3, 1) := by decide +kernel
theorem dX9_agreement_52 : decode cX9_agreement 52 = .ok (.ireturn, 1) := by decide +kernel
theorem dX10_init_0 : decode cX10_init 0 = .ok (.aload_n 0, 1) := by decide +kernel
theorem dX10_init_1 : decode cX10_init 1 = .ok (.invokespecial 1, 3) := by decide +kernel
theorem dX10_init_4 : decode cX10_init 4 = .ok (.aload_n 0, 1) := by decide +kernel
theorem dX10_init_5 : decode cX10_init 5 = .ok (.bipush 6, 2) := by decide +kernel
theorem dX10_init_7 : decode cX10_init 7 = .ok (.newarray .int, 2) := by decide +kernel
theorem dX10_init_9 : decode cX10_init 9 = .ok (.putfield 7, 3) := by decide +kernel
theorem dX10_init_12 : decode cX10_init 12 = .ok (.aload_n 0, 1) := by decide +kernel
theorem dX10_init_13 : decode cX10_init 13 = .ok (.iconst 4, 1) := by decide +kernel
theorem dX10_init_14 : decode cX10_init 14 = .ok (.newarray .int, 2) := by decide +kernel
theorem dX10_init_16 : decode cX10_init 16 = .ok (.putfield 13, 3) := by decide +kernel
theorem dX10_init_19 : decode cX10_init 19 = .ok (.aload_n 0, 1) := by decide +kernel
theorem dX10_init_20 : decode cX10_init 20 = .ok (.iconst 4, 1) := by decide +kernel
theorem dX10_init_21 : decode cX10_init 21 = .ok (.newarray .int, 2) := by decide +kernel
theorem dX10_init_23 : decode cX10_init 23 = .ok (.putfield 16, 3) := by decide +kernel
theorem dX10_init_26 : decode cX10_init 26 = .ok (.aload_n 0, 1) := by decide +kernel
theorem dX10_init_27 : decode cX10_init 27 = .ok (.sipush 240, 3) := by decide +kernel
theorem dX10_init_30 : decode cX10_init 30 = .ok (.newarray .long, 2) := by decide +kernel
theorem dX10_init_32 : decode cX10_init 32 = .ok (.putfield 19, 3) := by decide +kernel
theorem dX10_init_35 : decode cX10_init 35 = .ok (.aload_n 0, 1) := by decide +kernel
theorem dX10_init_36 : decode cX10_init 36 = .ok (.bipush 60, 2) := by decide +kernel
theorem dX10_init_38 : decode cX10_init 38 = .ok (.newarray .long, 2) := by decide +kernel
theorem dX10_init_40 : decode cX10_init 40 = .ok (.putfield 23, 3) := by decide +kernel
theorem dX10_init_43 : decode cX10_init 43 = .ok (.aload_n 0, 1) := by decide +kernel
theorem dX10_init_44 : decode cX10_init 44 = .ok (.bipush 10, 2) := by decide +kernel
theorem dX10_init_46 : decode cX10_init 46 = .ok (.newarray .int, 2) := by decide +kernel
theorem dX10_init_48 : decode cX10_init 48 = .ok (.putfield 26, 3) := by decide +kernel
theorem dX10_init_51 : decode cX10_init 51 = .ok (.aload_n 0, 1) := by decide +kernel
theorem dX10_init_52 : decode cX10_init 52 = .ok (.sipush 410, 3) := by decide +kernel
theorem dX10_init_55 : decode cX10_init 55 = .ok (.newarray .int, 2) := by decide +kernel
theorem dX10_init_57 : decode cX10_init 57 = .ok (.putfield 29, 3) := by decide +kernel
theorem dX10_init_60 : decode cX10_init 60 = .ok (.aload_n 0, 1) := by decide +kernel
theorem dX10_init_61 : decode cX10_init 61 = .ok (.bipush 41, 2) := by decide +kernel
theorem dX10_init_63 : decode cX10_init 63 = .ok (.newarray .int, 2) := by decide +kernel
theorem dX10_init_65 : decode cX10_init 65 = .ok (.putfield 32, 3) := by decide +kernel
theorem dX10_init_68 : decode cX10_init 68 = .ok (.aload_n 0, 1) := by decide +kernel
theorem dX10_init_69 : decode cX10_init 69 = .ok (.bipush 90, 2) := by decide +kernel
theorem dX10_init_71 : decode cX10_init 71 = .ok (.newarray .int, 2) := by decide +kernel
theorem dX10_init_73 : decode cX10_init 73 = .ok (.putfield 35, 3) := by decide +kernel
theorem dX10_init_76 : decode cX10_init 76 = .ok (.aload_n 0, 1) := by decide +kernel
theorem dX10_init_77 : decode cX10_init 77 = .ok (.bipush 90, 2) := by decide +kernel
theorem dX10_init_79 : decode cX10_init 79 = .ok (.newarray .int, 2) := by decide +kernel
theorem dX10_init_81 : decode cX10_init 81 = .ok (.putfield 38, 3) := by decide +kernel
theorem dX10_init_84 : decode cX10_init 84 = .ok (.aload_n 0, 1) := by decide +kernel
theorem dX10_init_85 : decode cX10_init 85 = .ok (.sipush 1936, 3) := by decide +kernel
theorem dX10_init_88 : decode cX10_init 88 = .ok (.newarray .int, 2) := by decide +kernel
theorem dX10_init_90 : decode cX10_init 90 = .ok (.putfield 41, 3) := by decide +kernel
theorem dX10_init_93 : decode cX10_init 93 = .ok (.aload_n 0, 1) := by decide +kernel
theorem dX10_init_94 : decode cX10_init 94 = .ok (.bipush 44, 2) := by decide +kernel
theorem dX10_init_96 : decode cX10_init 96 = .ok (.newarray .int, 2) := by decide +kernel
theorem dX10_init_98 : decode cX10_init 98 = .ok (.putfield 44, 3) := by decide +kernel
theorem dX10_init_101 : decode cX10_init 101 = .ok (.aload_n 0, 1) := by decide +kernel
theorem dX10_init_102 : decode cX10_init 102 = .ok (.bipush 44, 2) := by decide +kernel
theorem dX10_init_104 : decode cX10_init 104 = .ok (.newarray .int, 2) := by decide +kernel
theorem dX10_init_106 : decode cX10_init 106 = .ok (.putfield 47, 3) := by decide +kernel
theorem dX10_init_109 : decode cX10_init 109 = .ok (.aload_n 0, 1) := by decide +kernel
theorem dX10_init_110 : decode cX10_init 110 = .ok (.bipush 46, 2) := by decide +kernel
theorem dX10_init_112 : decode cX10_init 112 = .ok (.newarray .int, 2) := by decide +kernel
theorem dX10_init_114 : decode cX10_init 114 = .ok (.putfield 50, 3) := by decide +kernel
theorem dX10_init_117 : decode cX10_init 117 = .ok (.aload_n 0, 1) := by decide +kernel
theorem dX10_init_118 : decode cX10_init 118 = .ok (.bipush 46, 2) := by decide +kernel
theorem dX10_init_120 : decode cX10_init 120 = .ok (.newarray .int, 2) := by decide +kernel
theorem dX10_init_122 : decode cX10_init 122 = .ok (.putfield 53, 3) := by decide +kernel
theorem dX10_init_125 : decode cX10_init 125 = .ok (.aload_n 0, 1) := by decide +kernel
theorem dX10_init_126 : decode cX10_init 126 = .ok (.bipush 90, 2) := by decide +kernel
theorem dX10_init_128 : decode cX10_init 128 = .ok (.newarray .int, 2) := by decide +kernel
theorem dX10_init_130 : decode cX10_init 130 = .ok (.putfield 56, 3) := by decide +kernel
theorem dX10_init_133 : decode cX10_init 133 = .ok (.aload_n 0, 1) := by decide +kernel
theorem dX10_init_134 : decode cX10_init 134 = .ok (.bipush 90, 2) := by decide +kernel
theorem dX10_init_136 : decode cX10_init 136 = .ok (.newarray .int, 2) := by decide +kernel
theorem dX10_init_138 : decode cX10_init 138 = .ok (.putfield 59, 3) := by decide +kernel
theorem dX10_init_141 : decode cX10_init 141 = .ok (.aload_n 0, 1) := by decide +kernel
theorem dX10_init_142 : decode cX10_init 142 = .ok (.bipush 41, 2) := by decide +kernel
theorem dX10_init_144 : decode cX10_init 144 = .ok (.newarray .int, 2) := by decide +kernel
theorem dX10_init_146 : decode cX10_init 146 = .ok (.putfield 62, 3) := by decide +kernel
theorem dX10_init_149 : decode cX10_init 149 = .ok (.aload_n 0, 1) := by decide +kernel
theorem dX10_init_150 : decode cX10_init 150 = .ok (.bipush 46, 2) := by decide +kernel
theorem dX10_init_152 : decode cX10_init 152 = .ok (.newarray .int, 2) := by decide +kernel
theorem dX10_init_154 : decode cX10_init 154 = .ok (.putfield 65, 3) := by decide +kernel
theorem dX10_init_157 : decode cX10_init 157 = .ok (.aload_n 0, 1) := by decide +kernel
theorem dX10_init_158 : decode cX10_init 158 = .ok (.bipush 46, 2) := by decide +kernel
theorem dX10_init_160 : decode cX10_init 160 = .ok (.newarray .int, 2) := by decide +kernel
theorem dX10_init_162 : decode cX10_init 162 = .ok (.putfield 68, 3) := by decide +kernel
theorem dX10_init_165 : decode cX10_init 165 = .ok (.aload_n 0, 1) := by decide +kernel
theorem dX10_init_166 : decode cX10_init 166 = .ok (.bipush 41, 2) := by decide +kernel
theorem dX10_init_168 : decode cX10_init 168 = .ok (.newarray .int, 2) := by decide +kernel
theorem dX10_init_170 : decode cX10_init 170 = .ok (.putfield 71, 3) := by decide +kernel
theorem dX10_init_173 : decode cX10_init 173 = .ok (.aload_n 0, 1) := by decide +kernel
theorem dX10_init_174 : decode cX10_init 174 = .ok (.bipush 41, 2) := by decide +kernel
theorem dX10_init_176 : decode cX10_init 176 = .ok (.newarray .int, 2) := by decide +kernel
theorem dX10_init_178 : decode cX10_init 178 = .ok (.putfield 74, 3) := by decide +kernel
theorem dX10_init_181 : decode cX10_init 181 = .ok (.aload_n 0, 1) := by decide +kernel
theorem dX10_init_182 : decode cX10_init 182 = .ok (.bipush 45, 2) := by decide +kernel
theorem dX10_init_184 : decode cX10_init 184 = .ok (.newarray .int, 2) := by decide +kernel
theorem dX10_init_186 : decode cX10_init 186 = .ok (.putfield 77, 3) := by decide +kernel
theorem dX10_init_189 : decode cX10_init 189 = .ok (.aload_n 0, 1) := by decide +kernel
theorem dX10_init_190 : decode cX10_init 190 = .ok (.bipush 45, 2) := by decide +kernel
theorem dX10_init_192 : decode cX10_init 192 = .ok (.newarray .int, 2) := by decide +kernel
theorem dX10_init_194 : decode cX10_init 194 = .ok (.putfield 80, 3) := by decide +kernel
theorem dX10_init_197 : decode cX10_init 197 = .ok (.aload_n 0, 1) := by decide +kernel
theorem dX10_init_198 : decode cX10_init 198 = .ok (.bipush 45, 2) := by decide +kernel
theorem dX10_init_200 : decode cX10_init 200 = .ok (.newarray .int, 2) := by decide +kernel
theorem dX10_init_202 : decode cX10_init 202 = .ok (.putfield 83, 3) := by decide +kernel
theorem dX10_init_205 : decode cX10_init 205 = .ok (.aload_n 0, 1) := by decide +kernel
theorem dX10_init_206 : decode cX10_init 206 = .ok (.bipush 20, 2) := by decide +kernel
theorem dX10_init_208 : decode cX10_init 208 = .ok (.newarray .int, 2) := by decide +kernel
theorem dX10_init_210 : decode cX10_init 210 = .ok (.putfield 86, 3) := by decide +kernel
theorem dX10_init_213 : decode cX10_init 213 = .ok (.aload_n 0, 1) := by decide +kernel
theorem dX10_init_214 : decode cX10_init 214 = .ok (.bipush 20, 2) := by decide +kernel
theorem dX10_init_216 : decode cX10_init 216 = .ok (.newarray .int, 2) := by decide +kernel
theorem dX10_init_218 : decode cX10_init 218 = .ok (.putfield 89, 3) := by decide +kernel
theorem dX10_init_221 : decode cX10_init 221 = .ok (.aload_n 0, 1) := by decide +kernel
theorem dX10_init_222 : decode cX10_init 222 = .ok (.sipush 30011, 3) := by decide +kernel
theorem dX10_init_225 : decode cX10_init 225 = .ok (.putfield 92, 3) := by decide +kernel
theorem dX10_init_228 : decode cX10_init 228 = .ok (.aload_n 0, 1) := by decide +kernel
theorem dX10_init_229 : decode cX10_init 229 = .ok (.getfield 53, 3) := by decide +kernel
theorem dX10_init_232 : decode cX10_init 232 = .ok (.iconst 0, 1) := by decide +kernel
theorem dX10_init_233 : decode cX10_init 233 = .ok (.iconst 1, 1) := by decide +kernel
theorem dX10_init_234 : decode cX10_init 234 = .ok (.iastore, 1) := by decide +kernel
theorem dX10_init_235 : decode cX10_init 235 = .ok (.iconst 0, 1) := by decide +kernel
theorem dX10_init_236 : decode cX10_init 236 = .ok (.istore_n 1, 1) := by decide +kernel
theorem dX10_init_237 : decode cX10_init 237 = .ok (.iload_n 1, 1) := by decide +kernel
theorem dX10_init_238 : decode cX10_init 238 = .ok (.iconst 4, 1) := by decide +kernel
theorem dX10_init_239 : decode cX10_init 239 = .ok (.if_icmp .ge 16, 3) := by decide +kernel
theorem dX10_init_242 : decode cX10_init 242 = .ok (.aload_n 0, 1) := by decide +kernel
theorem dX10_init_243 : decode cX10_init 243 = .ok (.getfield 13, 3) := by decide +kernel
theorem dX10_init_246 : decode cX10_init 246 = .ok (.iload_n 1, 1) := by decide +kernel
theorem dX10_init_247 : decode cX10_init 247 = .ok (.iconst (-1), 1) := by decide +kernel
theorem dX10_init_248 : decode cX10_init 248 = .ok (.iastore, 1) := by decide +kernel
theorem dX10_init_249 : decode cX10_init 249 = .ok (.iinc 1 1, 3) := by decide +kernel
theorem dX10_init_252 : decode cX10_init 252 = .ok (.goto (-15), 3) := by decide +kernel
theorem dX10_init_255 : decode cX10_init 255 = .ok (.return_, 1) := by decide +kernel
theorem dX10_in_0 : decode cX10_in 0 = .ok (.lload_n 0, 1) := by decide +kernel
theorem dX10_in_1 : decode cX10_in 1 = .ok (.lload_n 2, 1) := by decide +kernel
theorem dX10_in_2 : decode cX10_in 2 = .ok (.lcmp, 1) := by decide +kernel
theorem dX10_in_3 : decode cX10_in 3 = .ok (.ifCond .lt 14, 3) := by decide +kernel
theorem dX10_in_6 : decode cX10_in 6 = .ok (.lload_n 0, 1) := by decide +kernel
theorem dX10_in_7 : decode cX10_in 7 = .ok (.lload 4, 2) := by decide +kernel
theorem dX10_in_9 : decode cX10_in 9 = .ok (.lcmp, 1) := by decide +kernel
theorem dX10_in_10 : decode cX10_in 10 = .ok (.ifCond .gt 7, 3) := by decide +kernel
theorem dX10_in_13 : decode cX10_in 13 = .ok (.iconst 1, 1) := by decide +kernel
theorem dX10_in_14 : decode cX10_in 14 = .ok (.goto 4, 3) := by decide +kernel
theorem dX10_in_17 : decode cX10_in 17 = .ok (.iconst 0, 1) := by decide +kernel
theorem dX10_in_18 : decode cX10_in 18 = .ok (.ireturn, 1) := by decide +kernel
theorem dX10_meets_0 : decode cX10_meets 0 = .ok (.aload_n 0, 1) := by decide +kernel
theorem dX10_meets_1 : decode cX10_meets 1 = .ok (.iload_n 1, 1) := by decide +kernel
theorem dX10_meets_2 : decode cX10_meets 2 = .ok (.putfield 96, 3) := by decide +kernel
theorem dX10_meets_5 : decode cX10_meets 5 = .ok (.aload_n 0, 1) := by decide +kernel
theorem dX10_meets_6 : decode cX10_meets 6 = .ok (.getfield 7, 3) := by decide +kernel
theorem dX10_meets_9 : decode cX10_meets 9 = .ok (.iload_n 1, 1) := by decide +kernel
theorem dX10_meets_10 : decode cX10_meets 10 = .ok (.dup2, 1) := by decide +kernel
theorem dX10_meets_11 : decode cX10_meets 11 = .ok (.iaload, 1) := by decide +kernel
theorem dX10_meets_12 : decode cX10_meets 12 = .ok (.iconst 1, 1) := by decide +kernel
theorem dX10_meets_13 : decode cX10_meets 13 = .ok (.iadd, 1) := by decide +kernel
theorem dX10_meets_14 : decode cX10_meets 14 = .ok (.iastore, 1) := by decide +kernel
theorem dX10_meets_15 : decode cX10_meets 15 = .ok (.bipush (-10), 2) := by decide +kernel
theorem dX10_meets_17 : decode cX10_meets 17 = .ok (.iload_n 1, 1) := by decide +kernel
theorem dX10_meets_18 : decode cX10_meets 18 = .ok (.isub, 1) := by decide +kernel
theorem dX10_meets_19 : decode cX10_meets 19 = .ok (.ireturn, 1) := by decide +kernel
theorem dX10_rest_0 : decode cX10_rest 0 = .ok (.lload_n 1, 1) := by decide +kernel
theorem dX10_rest_1 : decode cX10_rest 1 = .ok (.aload_n 0, 1) := by decide +kernel
theorem dX10_rest_2 : decode cX10_rest 2 = .ok (.getfield 92, 3) := by decide +kernel
theorem dX10_rest_5 : decode cX10_rest 5 = .ok (.i2l, 1) := by decide +kernel
theorem dX10_rest_6 : decode cX10_rest 6 = .ok (.lrem, 1) := by decide +kernel
theorem dX10_rest_7 : decode cX10_rest 7 = .ok (.lstore_n 3, 1) := by decide +kernel
theorem dX10_rest_8 : decode cX10_rest 8 = .ok (.lload_n 3, 1) := by decide +kernel
theorem dX10_rest_9 : decode cX10_rest 9 = .ok (.lconst 0, 1) := by decide +kernel
theorem dX10_rest_10 : decode cX10_rest 10 = .ok (.lcmp, 1) := by decide +kernel
theorem dX10_rest_11 : decode cX10_rest 11 = .ok (.ifCond .ge 13, 3) := by decide +kernel
theorem dX10_rest_14 : decode cX10_rest 14 = .ok (.lload_n 3, 1) := by decide +kernel
theorem dX10_rest_15 : decode cX10_rest 15 = .ok (.aload_n 0, 1) := by decide +kernel
theorem dX10_rest_16 : decode cX10_rest 16 = .ok (.getfield 92, 3) := by decide +kernel
theorem dX10_rest_19 : decode cX10_rest 19 = .ok (.i2l, 1) := by decide +kernel
theorem dX10_rest_20 : decode cX10_rest 20 = .ok (.ladd, 1) := by decide +kernel
theorem dX10_rest_21 : decode cX10_rest 21 = .ok (.goto 4, 3) := by decide +kernel
theorem dX10_rest_24 : decode cX10_rest 24 = .ok (.lload_n 3, 1) := by decide +kernel
theorem dX10_rest_25 : decode cX10_rest 25 = .ok (.l2i, 1) := by decide +kernel
theorem dX10_rest_26 : decode cX10_rest 26 = .ok (.ireturn, 1) := by decide +kernel
theorem dX10_product_0 : decode cX10_product 0 = .ok (.iload_n 1, 1) := by decide +kernel
theorem dX10_product_1 : decode cX10_product 1 = .ok (.i2l, 1) := by decide +kernel
theorem dX10_product_2 : decode cX10_product 2 = .ok (.iload_n 2, 1) := by decide +kernel
theorem dX10_product_3 : decode cX10_product 3 = .ok (.i2l, 1) := by decide +kernel
theorem dX10_product_4 : decode cX10_product 4 = .ok (.lmul, 1) := by decide +kernel
theorem dX10_product_5 : decode cX10_product 5 = .ok (.aload_n 0, 1) := by decide +kernel
theorem dX10_product_6 : decode cX10_product 6 = .ok (.getfield 92, 3) := by decide +kernel
theorem dX10_product_9 : decode cX10_product 9 = .ok (.i2l, 1) := by decide +kernel
theorem dX10_product_10 : decode cX10_product 10 = .ok (.lrem, 1) := by decide +kernel
theorem dX10_product_11 : decode cX10_product 11 = .ok (.l2i, 1) := by decide +kernel
theorem dX10_product_12 : decode cX10_product 12 = .ok (.ireturn, 1) := by decide +kernel
theorem dX10_power_0 : decode cX10_power 0 = .ok (.iconst 1, 1) := by decide +kernel
theorem dX10_power_1 : decode cX10_power 1 = .ok (.aload_n 0, 1) := by decide +kernel
theorem dX10_power_2 : decode cX10_power 2 = .ok (.getfield 92, 3) := by decide +kernel
theorem dX10_power_5 : decode cX10_power 5 = .ok (.irem, 1) := by decide +kernel
theorem dX10_power_6 : decode cX10_power 6 = .ok (.istore_n 3, 1) := by decide +kernel
theorem dX10_power_7 : decode cX10_power 7 = .ok (.iconst 0, 1) := by decide +kernel
theorem dX10_power_8 : decode cX10_power 8 = .ok (.istore 4, 2) := by decide +kernel
theorem dX10_power_10 : decode cX10_power 10 = .ok (.iload 4, 2) := by decide +kernel
theorem dX10_power_12 : decode cX10_power 12 = .ok (.iload_n 2, 1) := by decide +kernel
theorem dX10_power_13 : decode cX10_power 13 = .ok (.if_icmp .ge 16, 3) := by decide +kernel
theorem dX10_power_16 : decode cX10_power 16 = .ok (.aload_n 0, 1) := by decide +kernel
theorem dX10_power_17 : decode cX10_power 17 = .ok (.iload_n 3, 1) := by decide +kernel
theorem dX10_power_18 : decode cX10_power 18 = .ok (.iload_n 1, 1) := by decide +kernel
theorem dX10_power_19 : decode cX10_power 19 = .ok (.invokevirtual 99, 3) := by decide +kernel
theorem dX10_power_22 : decode cX10_power 22 = .ok (.istore_n 3, 1) := by decide +kernel
theorem dX10_power_23 : decode cX10_power 23 = .ok (.iinc 4 1, 3) := by decide +kernel
theorem dX10_power_26 : decode cX10_power 26 = .ok (.goto (-16), 3) := by decide +kernel
theorem dX10_power_29 : decode cX10_power 29 = .ok (.iload_n 3, 1) := by decide +kernel
theorem dX10_power_30 : decode cX10_power 30 = .ok (.ireturn, 1) := by decide +kernel
theorem dX10_inverse_0 : decode cX10_inverse 0 = .ok (.iconst 1, 1) := by decide +kernel
theorem dX10_inverse_1 : decode cX10_inverse 1 = .ok (.istore_n 2, 1) := by decide +kernel
theorem dX10_inverse_2 : decode cX10_inverse 2 = .ok (.iload_n 1, 1) := by decide +kernel
theorem dX10_inverse_3 : decode cX10_inverse 3 = .ok (.istore_n 3, 1) := by decide +kernel
theorem dX10_inverse_4 : decode cX10_inverse 4 = .ok (.aload_n 0, 1) := by decide +kernel
theorem dX10_inverse_5 : decode cX10_inverse 5 = .ok (.getfield 92, 3) := by decide +kernel
theorem dX10_inverse_8 : decode cX10_inverse 8 = .ok (.iconst 2, 1) := by decide +kernel
theorem dX10_inverse_9 : decode cX10_inverse 9 = .ok (.isub, 1) := by decide +kernel
theorem dX10_inverse_10 : decode cX10_inverse 10 = .ok (.istore 4, 2) := by decide +kernel
theorem dX10_inverse_12 : decode cX10_inverse 12 = .ok (.iload 4, 2) := by decide +kernel
theorem dX10_inverse_14 : decode cX10_inverse 14 = .ok (.ifCond .le 34, 3) := by decide +kernel
theorem dX10_inverse_17 : decode cX10_inverse 17 = .ok (.iload 4, 2) := by decide +kernel
theorem dX10_inverse_19 : decode cX10_inverse 19 = .ok (.iconst 1, 1) := by decide +kernel
theorem dX10_inverse_20 : decode cX10_inverse 20 = .ok (.iand, 1) := by decide +kernel
theorem dX10_inverse_21 : decode cX10_inverse 21 = .ok (.iconst 1, 1) := by decide +kernel
theorem dX10_inverse_22 : decode cX10_inverse 22 = .ok (.if_icmp .ne 10, 3) := by decide +kernel
theorem dX10_inverse_25 : decode cX10_inverse 25 = .ok (.aload_n 0, 1) := by decide +kernel
theorem dX10_inverse_26 : decode cX10_inverse 26 = .ok (.iload_n 2, 1) := by decide +kernel
theorem dX10_inverse_27 : decode cX10_inverse 27 = .ok (.iload_n 3, 1) := by decide +kernel
theorem dX10_inverse_28 : decode cX10_inverse 28 = .ok (.invokevirtual 99, 3) := by decide +kernel
theorem dX10_inverse_31 : decode cX10_inverse 31 = .ok (.istore_n 2, 1) := by decide +kernel
theorem dX10_inverse_32 : decode cX10_inverse 32 = .ok (.aload_n 0, 1) := by decide +kernel
theorem dX10_inverse_33 : decode cX10_inverse 33 = .ok (.iload_n 3, 1) := by decide +kernel
theorem dX10_inverse_34 : decode cX10_inverse 34 = .ok (.iload_n 3, 1) := by decide +kernel
theorem dX10_inverse_35 : decode cX10_inverse 35 = .ok (.invokevirtual 99, 3) := by decide +kernel
theorem dX10_inverse_38 : decode cX10_inverse 38 = .ok (.istore_n 3, 1) := by decide +kernel
theorem dX10_inverse_39 : decode cX10_inverse 39 = .ok (.iload 4, 2) := by decide +kernel
theorem dX10_inverse_41 : decode cX10_inverse 41 = .ok (.iconst 1, 1) := by decide +kernel
theorem dX10_inverse_42 : decode cX10_inverse 42 = .ok (.ishr, 1) := by decide +kernel
theorem dX10_inverse_43 : decode cX10_inverse 43 = .ok (.istore 4, 2) := by decide +kernel
theorem dX10_inverse_45 : decode cX10_inverse 45 = .ok (.goto (-33), 3) := by decide +kernel
theorem dX10_inverse_48 : decode cX10_inverse 48 = .ok (.iload_n 2, 1) := by decide +kernel
theorem dX10_inverse_49 : decode cX10_inverse 49 = .ok (.ireturn, 1) := by decide +kernel
theorem dX10_isPrime_0 : decode cX10_isPrime 0 = .ok (.iload_n 0, 1) := by decide +kernel
theorem dX10_isPrime_1 : decode cX10_isPrime 1 = .ok (.iconst 1, 1) := by decide +kernel
theorem dX10_isPrime_2 : decode cX10_isPrime 2 = .ok (.if_icmp .le 7, 3) := by decide +kernel
theorem dX10_isPrime_5 : decode cX10_isPrime 5 = .ok (.iconst 1, 1) := by decide +kernel
theorem dX10_isPrime_6 : decode cX10_isPrime 6 = .ok (.goto 4, 3) := by decide +kernel
theorem dX10_isPrime_9 : decode cX10_isPrime 9 = .ok (.iconst 0, 1) := by decide +kernel
theorem dX10_isPrime_10 : decode cX10_isPrime 10 = .ok (.istore_n 1, 1) := by decide +kernel
theorem dX10_isPrime_11 : decode cX10_isPrime 11 = .ok (.iconst 2, 1) := by decide +kernel
theorem dX10_isPrime_12 : decode cX10_isPrime 12 = .ok (.istore_n 2, 1) := by decide +kernel
theorem dX10_isPrime_13 : decode cX10_isPrime 13 = .ok (.iload_n 2, 1) := by decide +kernel
theorem dX10_isPrime_14 : decode cX10_isPrime 14 = .ok (.iload_n 2, 1) := by decide +kernel
theorem dX10_isPrime_15 : decode cX10_isPrime 15 = .ok (.imul, 1) := by decide +kernel
theorem dX10_isPrime_16 : decode cX10_isPrime 16 = .ok (.iload_n 0, 1) := by decide +kernel
theorem dX10_isPrime_17 : decode cX10_isPrime 17 = .ok (.if_icmp .gt 25, 3) := by decide +kernel
theorem dX10_isPrime_20 : decode cX10_isPrime 20 = .ok (.iload_n 1, 1) := by decide +kernel
theorem dX10_isPrime_21 : decode cX10_isPrime 21 = .ok (.ifCond .eq 21, 3) := by decide +kernel
theorem dX10_isPrime_24 : decode cX10_isPrime 24 = .ok (.iload_n 0, 1) := by decide +kernel
theorem dX10_isPrime_25 : decode cX10_isPrime 25 = .ok (.iload_n 2, 1) := by decide +kernel
theorem dX10_isPrime_26 : decode cX10_isPrime 26 = .ok (.irem, 1) := by decide +kernel
theorem dX10_isPrime_27 : decode cX10_isPrime 27 = .ok (.ifCond .eq 7, 3) := by decide +kernel
theorem dX10_isPrime_30 : decode cX10_isPrime 30 = .ok (.iconst 1, 1) := by decide +kernel
theorem dX10_isPrime_31 : decode cX10_isPrime 31 = .ok (.goto 4, 3) := by decide +kernel
theorem dX10_isPrime_34 : decode cX10_isPrime 34 = .ok (.iconst 0, 1) := by decide +kernel
theorem dX10_isPrime_35 : decode cX10_isPrime 35 = .ok (.istore_n 1, 1) := by decide +kernel
theorem dX10_isPrime_36 : decode cX10_isPrime 36 = .ok (.iinc 2 1, 3) := by decide +kernel
theorem dX10_isPrime_39 : decode cX10_isPrime 39 = .ok (.goto (-26), 3) := by decide +kernel
theorem dX10_isPrime_42 : decode cX10_isPrime 42 = .ok (.iload_n 1, 1) := by decide +kernel
theorem dX10_isPrime_43 : decode cX10_isPrime 43 = .ok (.ireturn, 1) := by decide +kernel
theorem dX10_prime_0 : decode cX10_prime 0 = .ok (.iload_n 1, 1) := by decide +kernel
theorem dX10_prime_1 : decode cX10_prime 1 = .ok (.i2l, 1) := by decide +kernel
theorem dX10_prime_2 : decode cX10_prime 2 = .ok (.ldc2_w 103, 3) := by decide +kernel
theorem dX10_prime_5 : decode cX10_prime 5 = .ok (.ldc2_w 105, 3) := by decide +kernel
theorem dX10_prime_8 : decode cX10_prime 8 = .ok (.invokestatic 107, 3) := by decide +kernel
theorem dX10_prime_11 : decode cX10_prime 11 = .ok (.ifCond .eq 10, 3) := by decide +kernel
theorem dX10_prime_14 : decode cX10_prime 14 = .ok (.iload_n 1, 1) := by decide +kernel
theorem dX10_prime_15 : decode cX10_prime 15 = .ok (.invokestatic 111, 3) := by decide +kernel
theorem dX10_prime_18 : decode cX10_prime 18 = .ok (.ifCond .ne 6, 3) := by decide +kernel
theorem dX10_prime_21 : decode cX10_prime 21 = .ok (.bipush (-102), 2) := by decide +kernel
theorem dX10_prime_23 : decode cX10_prime 23 = .ok (.ireturn, 1) := by decide +kernel
theorem dX10_prime_24 : decode cX10_prime 24 = .ok (.aload_n 0, 1) := by decide +kernel
theorem dX10_prime_25 : decode cX10_prime 25 = .ok (.getfield 115, 3) := by decide +kernel
theorem dX10_prime_28 : decode cX10_prime 28 = .ok (.ifCond .gt 10, 3) := by decide +kernel
theorem dX10_prime_31 : decode cX10_prime 31 = .ok (.aload_n 0, 1) := by decide +kernel
theorem dX10_prime_32 : decode cX10_prime 32 = .ok (.getfield 118, 3) := by decide +kernel
theorem dX10_prime_35 : decode cX10_prime 35 = .ok (.ifCond .le 6, 3) := by decide +kernel
theorem dX10_prime_38 : decode cX10_prime 38 = .ok (.bipush (-103), 2) := by decide +kernel
theorem dX10_prime_40 : decode cX10_prime 40 = .ok (.ireturn, 1) := by decide +kernel
theorem dX10_prime_41 : decode cX10_prime 41 = .ok (.aload_n 0, 1) := by decide +kernel
theorem dX10_prime_42 : decode cX10_prime 42 = .ok (.getfield 92, 3) := by decide +kernel
theorem dX10_prime_45 : decode cX10_prime 45 = .ok (.istore_n 2, 1) := by decide +kernel
theorem dX10_prime_46 : decode cX10_prime 46 = .ok (.aload_n 0, 1) := by decide +kernel
theorem dX10_prime_47 : decode cX10_prime 47 = .ok (.iload_n 1, 1) := by decide +kernel
theorem dX10_prime_48 : decode cX10_prime 48 = .ok (.putfield 92, 3) := by decide +kernel
theorem dX10_prime_51 : decode cX10_prime 51 = .ok (.aload_n 0, 1) := by decide +kernel
theorem dX10_prime_52 : decode cX10_prime 52 = .ok (.invokevirtual 121, 3) := by decide +kernel
theorem dX10_prime_55 : decode cX10_prime 55 = .ok (.iload_n 2, 1) := by decide +kernel
theorem dX10_prime_56 : decode cX10_prime 56 = .ok (.ireturn, 1) := by decide +kernel
theorem dX10_isSheet_0 : decode cX10_isSheet 0 = .ok (.iload_n 0, 1) := by decide +kernel
theorem dX10_isSheet_1 : decode cX10_isSheet 1 = .ok (.i2l, 1) := by decide +kernel
theorem dX10_isSheet_2 : decode cX10_isSheet 2 = .ok (.lconst 0, 1) := by decide +kernel
theorem dX10_isSheet_3 : decode cX10_isSheet 3 = .ok (.ldc2_w 124, 3) := by decide +kernel
theorem dX10_isSheet_6 : decode cX10_isSheet 6 = .ok (.invokestatic 107, 3) := by decide +kernel
theorem dX10_isSheet_9 : decode cX10_isSheet 9 = .ok (.ireturn, 1) := by decide +kernel
theorem dX10_sheet_0 : decode cX10_sheet 0 = .ok (.iload_n 1, 1) := by decide +kernel
theorem dX10_sheet_1 : decode cX10_sheet 1 = .ok (.invokestatic 126, 3) := by decide +kernel
theorem dX10_sheet_4 : decode cX10_sheet 4 = .ok (.ifCond .ne 6, 3) := by decide +kernel
theorem dX10_sheet_7 : decode cX10_sheet 7 = .ok (.bipush (-101), 2) := by decide +kernel
theorem dX10_sheet_9 : decode cX10_sheet 9 = .ok (.ireturn, 1) := by decide +kernel
theorem dX10_sheet_10 : decode cX10_sheet 10 = .ok (.iload_n 2, 1) := by decide +kernel
theorem dX10_sheet_11 : decode cX10_sheet 11 = .ok (.i2l, 1) := by decide +kernel
theorem dX10_sheet_12 : decode cX10_sheet 12 = .ok (.lconst 0, 1) := by decide +kernel
theorem dX10_sheet_13 : decode cX10_sheet 13 = .ok (.ldc2_w 124, 3) := by decide +kernel
theorem dX10_sheet_16 : decode cX10_sheet 16 = .ok (.invokestatic 107, 3) := by decide +kernel
theorem dX10_sheet_19 : decode cX10_sheet 19 = .ok (.ifCond .eq 9, 3) := by decide +kernel
theorem dX10_sheet_22 : decode cX10_sheet 22 = .ok (.iload_n 3, 1) := by decide +kernel
theorem dX10_sheet_23 : decode cX10_sheet 23 = .ok (.bipush 60, 2) := by decide +kernel
theorem dX10_sheet_25 : decode cX10_sheet 25 = .ok (.if_icmp .le 6, 3) := by decide +kernel
theorem dX10_sheet_28 : decode cX10_sheet 28 = .ok (.bipush (-102), 2) := by decide +kernel
theorem dX10_sheet_30 : decode cX10_sheet 30 = .ok (.ireturn, 1) := by decide +kernel
theorem dX10_sheet_31 : decode cX10_sheet 31 = .ok (.iload_n 3, 1) := by decide +kernel
theorem dX10_sheet_32 : decode cX10_sheet 32 = .ok (.ifCond .ge 9, 3) := by decide +kernel
theorem dX10_sheet_35 : decode cX10_sheet 35 = .ok (.aload_n 0, 1) := by decide +kernel
theorem dX10_sheet_36 : decode cX10_sheet 36 = .ok (.iconst 3, 1) := by decide +kernel
theorem dX10_sheet_37 : decode cX10_sheet 37 = .ok (.invokevirtual 129, 3) := by decide +kernel
theorem dX10_sheet_40 : decode cX10_sheet 40 = .ok (.ireturn, 1) := by decide +kernel
theorem dX10_sheet_41 : decode cX10_sheet 41 = .ok (.aload_n 0, 1) := by decide +kernel
theorem dX10_sheet_42 : decode cX10_sheet 42 = .ok (.getfield 13, 3) := by decide +kernel
theorem dX10_sheet_45 : decode cX10_sheet 45 = .ok (.iload_n 1, 1) := by decide +kernel
theorem dX10_sheet_46 : decode cX10_sheet 46 = .ok (.iload_n 2, 1) := by decide +kernel
theorem dX10_sheet_47 : decode cX10_sheet 47 = .ok (.iastore, 1) := by decide +kernel
theorem dX10_sheet_48 : decode cX10_sheet 48 = .ok (.aload_n 0, 1) := by decide +kernel
theorem dX10_sheet_49 : decode cX10_sheet 49 = .ok (.getfield 16, 3) := by decide +kernel
theorem dX10_sheet_52 : decode cX10_sheet 52 = .ok (.iload_n 1, 1) := by decide +kernel
theorem dX10_sheet_53 : decode cX10_sheet 53 = .ok (.iload_n 3, 1) := by decide +kernel
theorem dX10_sheet_54 : decode cX10_sheet 54 = .ok (.iastore, 1) := by decide +kernel
theorem dX10_sheet_55 : decode cX10_sheet 55 = .ok (.iconst 0, 1) := by decide +kernel
theorem dX10_sheet_56 : decode cX10_sheet 56 = .ok (.istore 4, 2) := by decide +kernel
theorem dX10_sheet_58 : decode cX10_sheet 58 = .ok (.iload 4, 2) := by decide +kernel
theorem dX10_sheet_60 : decode cX10_sheet 60 = .ok (.bipush 60, 2) := by decide +kernel
theorem dX10_sheet_62 : decode cX10_sheet 62 = .ok (.if_icmp .ge 22, 3) := by decide +kernel
theorem dX10_sheet_65 : decode cX10_sheet 65 = .ok (.aload_n 0, 1) := by decide +kernel
theorem dX10_sheet_66 : decode cX10_sheet 66 = .ok (.getfield 19, 3) := by decide +kernel
theorem dX10_sheet_69 : decode cX10_sheet 69 = .ok (.bipush 60, 2) := by decide +kernel
theorem dX10_sheet_71 : decode cX10_sheet 71 = .ok (.iload_n 1, 1) := by decide +kernel
theorem dX10_sheet_72 : decode cX10_sheet 72 = .ok (.imul, 1) := by decide +kernel
theorem dX10_sheet_73 : decode cX10_sheet 73 = .ok (.iload 4, 2) := by decide +kernel
theorem dX10_sheet_75 : decode cX10_sheet 75 = .ok (.iadd, 1) := by decide +kernel
theorem dX10_sheet_76 : decode cX10_sheet 76 = .ok (.lconst 0, 1) := by decide +kernel
theorem dX10_sheet_77 : decode cX10_sheet 77 = .ok (.lastore, 1) := by decide +kernel
theorem dX10_sheet_78 : decode cX10_sheet 78 = .ok (.iinc 4 1, 3) := by decide +kernel
theorem dX10_sheet_81 : decode cX10_sheet 81 = .ok (.goto (-23), 3) := by decide +kernel
theorem dX10_sheet_84 : decode cX10_sheet 84 = .ok (.iload_n 3, 1) := by decide +kernel
theorem dX10_sheet_85 : decode cX10_sheet 85 = .ok (.ireturn, 1) := by decide +kernel
theorem dX10_put_0 : decode cX10_put 0 = .ok (.iload_n 1, 1) := by decide +kernel
theorem dX10_put_1 : decode cX10_put 1 = .ok (.invokestatic 126, 3) := by decide +kernel
theorem dX10_put_4 : decode cX10_put 4 = .ok (.ifCond .ne 6, 3) := by decide +kernel
theorem dX10_put_7 : decode cX10_put 7 = .ok (.bipush (-101), 2) := by decide +kernel
theorem dX10_put_9 : decode cX10_put 9 = .ok (.ireturn, 1) := by decide +kernel
theorem dX10_put_10 : decode cX10_put 10 = .ok (.iload_n 2, 1) := by decide +kernel
theorem dX10_put_11 : decode cX10_put 11 = .ok (.i2l, 1) := by decide +kernel
theorem dX10_put_12 : decode cX10_put 12 = .ok (.lconst 0, 1) := by decide +kernel
theorem dX10_put_13 : decode cX10_put 13 = .ok (.ldc2_w 124, 3) := by decide +kernel
theorem dX10_put_16 : decode cX10_put 16 = .ok (.invokestatic 107, 3) := by decide +kernel
theorem dX10_put_19 : decode cX10_put 19 = .ok (.ifCond .ne 6, 3) := by decide +kernel
theorem dX10_put_22 : decode cX10_put 22 = .ok (.bipush (-102), 2) := by decide +kernel
theorem dX10_put_24 : decode cX10_put 24 = .ok (.ireturn, 1) := by decide +kernel
theorem dX10_put_25 : decode cX10_put 25 = .ok (.aload_n 0, 1) := by decide +kernel
theorem dX10_put_26 : decode cX10_put 26 = .ok (.getfield 13, 3) := by decide +kernel
theorem dX10_put_29 : decode cX10_put 29 = .ok (.iload_n 1, 1) := by decide +kernel
theorem dX10_put_30 : decode cX10_put 30 = .ok (.iaload, 1) := by decide +kernel
theorem dX10_put_31 : decode cX10_put 31 = .ok (.iconst (-1), 1) := by decide +kernel
theorem dX10_put_32 : decode cX10_put 32 = .ok (.if_icmp .ne 9, 3) := by decide +kernel
theorem dX10_put_35 : decode cX10_put 35 = .ok (.aload_n 0, 1) := by decide +kernel
theorem dX10_put_36 : decode cX10_put 36 = .ok (.iconst 1, 1) := by decide +kernel
theorem dX10_put_37 : decode cX10_put 37 = .ok (.invokevirtual 129, 3) := by decide +kernel
theorem dX10_put_40 : decode cX10_put 40 = .ok (.ireturn, 1) := by decide +kernel
theorem dX10_put_41 : decode cX10_put 41 = .ok (.aload_n 0, 1) := by decide +kernel
theorem dX10_put_42 : decode cX10_put 42 = .ok (.getfield 13, 3) := by decide +kernel
theorem dX10_put_45 : decode cX10_put 45 = .ok (.iload_n 1, 1) := by decide +kernel
theorem dX10_put_46 : decode cX10_put 46 = .ok (.iaload, 1) := by decide +kernel
theorem dX10_put_47 : decode cX10_put 47 = .ok (.iload_n 2, 1) := by decide +kernel
theorem dX10_put_48 : decode cX10_put 48 = .ok (.if_icmp .eq 9, 3) := by decide +kernel
theorem dX10_put_51 : decode cX10_put 51 = .ok (.aload_n 0, 1) := by decide +kernel
theorem dX10_put_52 : decode cX10_put 52 = .ok (.iconst 4, 1) := by decide +kernel
theorem dX10_put_53 : decode cX10_put 53 = .ok (.invokevirtual 129, 3) := by decide +kernel
theorem dX10_put_56 : decode cX10_put 56 = .ok (.ireturn, 1) := by decide +kernel
theorem dX10_put_57 : decode cX10_put 57 = .ok (.iload_n 3, 1) := by decide +kernel
theorem dX10_put_58 : decode cX10_put 58 = .ok (.i2l, 1) := by decide +kernel
theorem dX10_put_59 : decode cX10_put 59 = .ok (.lconst 0, 1) := by decide +kernel
theorem dX10_put_60 : decode cX10_put 60 = .ok (.aload_n 0, 1) := by decide +kernel
theorem dX10_put_61 : decode cX10_put 61 = .ok (.getfield 16, 3) := by decide +kernel
theorem dX10_put_64 : decode cX10_put 64 = .ok (.iload_n 1, 1) := by decide +kernel
theorem dX10_put_65 : decode cX10_put 65 = .ok (.iaload, 1) := by decide +kernel
theorem dX10_put_66 : decode cX10_put 66 = .ok (.iconst 1, 1) := by decide +kernel
theorem dX10_put_67 : decode cX10_put 67 = .ok (.isub, 1) := by decide +kernel
theorem dX10_put_68 : decode cX10_put 68 = .ok (.i2l, 1) := by decide +kernel
theorem dX10_put_69 : decode cX10_put 69 = .ok (.invokestatic 107, 3) := by decide +kernel
theorem dX10_put_72 : decode cX10_put 72 = .ok (.ifCond .ne 9, 3) := by decide +kernel
theorem dX10_put_75 : decode cX10_put 75 = .ok (.aload_n 0, 1) := by decide +kernel
theorem dX10_put_76 : decode cX10_put 76 = .ok (.iconst 2, 1) := by decide +kernel
theorem dX10_put_77 : decode cX10_put 77 = .ok (.invokevirtual 129, 3) := by decide +kernel
theorem dX10_put_80 : decode cX10_put 80 = .ok (.ireturn, 1) := by decide +kernel
theorem dX10_put_81 : decode cX10_put 81 = .ok (.aload_n 0, 1) := by decide +kernel
theorem dX10_put_82 : decode cX10_put 82 = .ok (.getfield 19, 3) := by decide +kernel
theorem dX10_put_85 : decode cX10_put 85 = .ok (.bipush 60, 2) := by decide +kernel
theorem dX10_put_87 : decode cX10_put 87 = .ok (.iload_n 1, 1) := by decide +kernel
theorem dX10_put_88 : decode cX10_put 88 = .ok (.imul, 1) := by decide +kernel
theorem dX10_put_89 : decode cX10_put 89 = .ok (.iload_n 3, 1) := by decide +kernel
theorem dX10_put_90 : decode cX10_put 90 = .ok (.iadd, 1) := by decide +kernel
theorem dX10_put_91 : decode cX10_put 91 = .ok (.iload_n 2, 1) := by decide +kernel
theorem dX10_put_92 : decode cX10_put 92 = .ok (.ifCond .ne 11, 3) := by decide +kernel
theorem dX10_put_95 : decode cX10_put 95 = .ok (.lload 4, 2) := by decide +kernel
theorem dX10_put_97 : decode cX10_put 97 = .ok (.l2i, 1) := by decide +kernel
theorem dX10_put_98 : decode cX10_put 98 = .ok (.i2b, 1) := by decide +kernel
theorem dX10_put_99 : decode cX10_put 99 = .ok (.i2l, 1) := by decide +kernel
theorem dX10_put_100 : decode cX10_put 100 = .ok (.goto 30, 3) := by decide +kernel
theorem dX10_put_103 : decode cX10_put 103 = .ok (.iload_n 2, 1) := by decide +kernel
theorem dX10_put_104 : decode cX10_put 104 = .ok (.iconst 1, 1) := by decide +kernel
theorem dX10_put_105 : decode cX10_put 105 = .ok (.if_icmp .ne 11, 3) := by decide +kernel
theorem dX10_put_108 : decode cX10_put 108 = .ok (.lload 4, 2) := by decide +kernel
theorem dX10_put_110 : decode cX10_put 110 = .ok (.l2i, 1) := by decide +kernel
theorem dX10_put_111 : decode cX10_put 111 = .ok (.i2s, 1) := by decide +kernel
theorem dX10_put_112 : decode cX10_put 112 = .ok (.i2l, 1) := by decide +kernel
theorem dX10_put_113 : decode cX10_put 113 = .ok (.goto 17, 3) := by decide +kernel
theorem dX10_put_116 : decode cX10_put 116 = .ok (.iload_n 2, 1) := by decide +kernel
theorem dX10_put_117 : decode cX10_put 117 = .ok (.iconst 2, 1) := by decide +kernel
theorem dX10_put_118 : decode cX10_put 118 = .ok (.if_icmp .ne 10, 3) := by decide +kernel
theorem dX10_put_121 : decode cX10_put 121 = .ok (.lload 4, 2) := by decide +kernel
theorem dX10_put_123 : decode cX10_put 123 = .ok (.l2i, 1) := by decide +kernel
theorem dX10_put_124 : decode cX10_put 124 = .ok (.i2l, 1) := by decide +kernel
theorem dX10_put_125 : decode cX10_put 125 = .ok (.goto 5, 3) := by decide +kernel
theorem dX10_put_128 : decode cX10_put 128 = .ok (.lload 4, 2) := by decide +kernel
theorem dX10_put_130 : decode cX10_put 130 = .ok (.lastore, 1) := by decide +kernel
theorem dX10_put_131 : decode cX10_put 131 = .ok (.iconst 1, 1) := by decide +kernel
theorem dX10_put_132 : decode cX10_put 132 = .ok (.ireturn, 1) := by decide +kernel
theorem dX10_copy_0 : decode cX10_copy 0 = .ok (.iload_n 1, 1) := by decide +kernel
theorem dX10_copy_1 : decode cX10_copy 1 = .ok (.invokestatic 126, 3) := by decide +kernel
theorem dX10_copy_4 : decode cX10_copy 4 = .ok (.ifCond .eq 10, 3) := by decide +kernel
theorem dX10_copy_7 : decode cX10_copy 7 = .ok (.iload_n 3, 1) := by decide +kernel
theorem dX10_copy_8 : decode cX10_copy 8 = .ok (.invokestatic 126, 3) := by decide +kernel
theorem dX10_copy_11 : decode cX10_copy 11 = .ok (.ifCond .ne 6, 3) := by decide +kernel
theorem dX10_copy_14 : decode cX10_copy 14 = .ok (.bipush (-101), 2) := by decide +kernel
theorem dX10_copy_16 : decode cX10_copy 16 = .ok (.ireturn, 1) := by decide +kernel
theorem dX10_copy_17 : decode cX10_copy 17 = .ok (.aload_n 0, 1) := by decide +kernel
theorem dX10_copy_18 : decode cX10_copy 18 = .ok (.getfield 13, 3) := by decide +kernel
theorem dX10_copy_21 : decode cX10_copy 21 = .ok (.iload_n 1, 1) := by decide +kernel
theorem dX10_copy_22 : decode cX10_copy 22 = .ok (.iaload, 1) := by decide +kernel
theorem dX10_copy_23 : decode cX10_copy 23 = .ok (.iconst (-1), 1) := by decide +kernel
theorem dX10_copy_24 : decode cX10_copy 24 = .ok (.if_icmp .eq 13, 3) := by decide +kernel
theorem dX10_copy_27 : decode cX10_copy 27 = .ok (.aload_n 0, 1) := by decide +kernel
theorem dX10_copy_28 : decode cX10_copy 28 = .ok (.getfield 13, 3) := by decide +kernel
theorem dX10_copy_31 : decode cX10_copy 31 = .ok (.iload_n 3, 1) := by decide +kernel
theorem dX10_copy_32 : decode cX10_copy 32 = .ok (.iaload, 1) := by decide +kernel
theorem dX10_copy_33 : decode cX10_copy 33 = .ok (.iconst (-1), 1) := by decide +kernel
theorem dX10_copy_34 : decode cX10_copy 34 = .ok (.if_icmp .ne 9, 3) := by decide +kernel
theorem dX10_copy_37 : decode cX10_copy 37 = .ok (.aload_n 0, 1) := by decide +kernel
theorem dX10_copy_38 : decode cX10_copy 38 = .ok (.iconst 1, 1) := by decide +kernel
theorem dX10_copy_39 : decode cX10_copy 39 = .ok (.invokevirtual 129, 3) := by decide +kernel
theorem dX10_copy_42 : decode cX10_copy 42 = .ok (.ireturn, 1) := by decide +kernel
theorem dX10_copy_43 : decode cX10_copy 43 = .ok (.aload_n 0, 1) := by decide +kernel
theorem dX10_copy_44 : decode cX10_copy 44 = .ok (.getfield 13, 3) := by decide +kernel
theorem dX10_copy_47 : decode cX10_copy 47 = .ok (.iload_n 1, 1) := by decide +kernel
theorem dX10_copy_48 : decode cX10_copy 48 = .ok (.iaload, 1) := by decide +kernel
theorem dX10_copy_49 : decode cX10_copy 49 = .ok (.aload_n 0, 1) := by decide +kernel
theorem dX10_copy_50 : decode cX10_copy 50 = .ok (.getfield 13, 3) := by decide +kernel
theorem dX10_copy_53 : decode cX10_copy 53 = .ok (.iload_n 3, 1) := by decide +kernel
theorem dX10_copy_54 : decode cX10_copy 54 = .ok (.iaload, 1) := by decide +kernel
theorem dX10_copy_55 : decode cX10_copy 55 = .ok (.if_icmp .eq 9, 3) := by decide +kernel
theorem dX10_copy_58 : decode cX10_copy 58 = .ok (.aload_n 0, 1) := by decide +kernel
theorem dX10_copy_59 : decode cX10_copy 59 = .ok (.iconst 4, 1) := by decide +kernel
theorem dX10_copy_60 : decode cX10_copy 60 = .ok (.invokevirtual 129, 3) := by decide +kernel
theorem dX10_copy_63 : decode cX10_copy 63 = .ok (.ireturn, 1) := by decide +kernel
theorem dX10_copy_64 : decode cX10_copy 64 = .ok (.iload_n 2, 1) := by decide +kernel
theorem dX10_copy_65 : decode cX10_copy 65 = .ok (.ifCond .lt 48, 3) := by decide +kernel
theorem dX10_copy_68 : decode cX10_copy 68 = .ok (.iload 4, 2) := by decide +kernel
theorem dX10_copy_70 : decode cX10_copy 70 = .ok (.ifCond .lt 43, 3) := by decide +kernel
theorem dX10_copy_73 : decode cX10_copy 73 = .ok (.iload 5, 2) := by decide +kernel
theorem dX10_copy_75 : decode cX10_copy 75 = .ok (.ifCond .lt 38, 3) := by decide +kernel
theorem dX10_copy_78 : decode cX10_copy 78 = .ok (.iload_n 2, 1) := by decide +kernel
theorem dX10_copy_79 : decode cX10_copy 79 = .ok (.i2l, 1) := by decide +kernel
theorem dX10_copy_80 : decode cX10_copy 80 = .ok (.iload 5, 2) := by decide +kernel
theorem dX10_copy_82 : decode cX10_copy 82 = .ok (.i2l, 1) := by decide +kernel
theorem dX10_copy_83 : decode cX10_copy 83 = .ok (.ladd, 1) := by decide +kernel
theorem dX10_copy_84 : decode cX10_copy 84 = .ok (.aload_n 0, 1) := by decide +kernel
theorem dX10_copy_85 : decode cX10_copy 85 = .ok (.getfield 16, 3) := by decide +kernel
theorem dX10_copy_88 : decode cX10_copy 88 = .ok (.iload_n 1, 1) := by decide +kernel
theorem dX10_copy_89 : decode cX10_copy 89 = .ok (.iaload, 1) := by decide +kernel
theorem dX10_copy_90 : decode cX10_copy 90 = .ok (.i2l, 1) := by decide +kernel
theorem dX10_copy_91 : decode cX10_copy 91 = .ok (.lcmp, 1) := by decide +kernel
theorem dX10_copy_92 : decode cX10_copy 92 = .ok (.ifCond .gt 21, 3) := by decide +kernel
theorem dX10_copy_95 : decode cX10_copy 95 = .ok (.iload 4, 2) := by decide +kernel
theorem dX10_copy_97 : decode cX10_copy 97 = .ok (.i2l, 1) := by decide +kernel
theorem dX10_copy_98 : decode cX10_copy 98 = .ok (.iload 5, 2) := by decide +kernel
theorem dX10_copy_100 : decode cX10_copy 100 = .ok (.i2l, 1) := by decide +kernel
theorem dX10_copy_101 : decode cX10_copy 101 = .ok (.ladd, 1) := by decide +kernel
theorem dX10_copy_102 : decode cX10_copy 102 = .ok (.aload_n 0, 1) := by decide +kernel
theorem dX10_copy_103 : decode cX10_copy 103 = .ok (.getfield 16, 3) := by decide +kernel
theorem dX10_copy_106 : decode cX10_copy 106 = .ok (.iload_n 3, 1) := by decide +kernel
theorem dX10_copy_107 : decode cX10_copy 107 = .ok (.iaload, 1) := by decide +kernel
theorem dX10_copy_108 : decode cX10_copy 108 = .ok (.i2l, 1) := by decide +kernel
theorem dX10_copy_109 : decode cX10_copy 109 = .ok (.lcmp, 1) := by decide +kernel
theorem dX10_copy_110 : decode cX10_copy 110 = .ok (.ifCond .le 9, 3) := by decide +kernel
theorem dX10_copy_113 : decode cX10_copy 113 = .ok (.aload_n 0, 1) := by decide +kernel
theorem dX10_copy_114 : decode cX10_copy 114 = .ok (.iconst 2, 1) := by decide +kernel
theorem dX10_copy_115 : decode cX10_copy 115 = .ok (.invokevirtual 129, 3) := by decide +kernel
theorem dX10_copy_118 : decode cX10_copy 118 = .ok (.ireturn, 1) := by decide +kernel
theorem dX10_copy_119 : decode cX10_copy 119 = .ok (.iconst 0, 1) := by decide +kernel
theorem dX10_copy_120 : decode cX10_copy 120 = .ok (.istore 6, 2) := by decide +kernel
theorem dX10_copy_122 : decode cX10_copy 122 = .ok (.iload 6, 2) := by decide +kernel
theorem dX10_copy_124 : decode cX10_copy 124 = .ok (.iload 5, 2) := by decide +kernel
theorem dX10_copy_126 : decode cX10_copy 126 = .ok (.if_icmp .ge 30, 3) := by decide +kernel
theorem dX10_copy_129 : decode cX10_copy 129 = .ok (.aload_n 0, 1) := by decide +kernel
theorem dX10_copy_130 : decode cX10_copy 130 = .ok (.getfield 23, 3) := by decide +kernel
theorem dX10_copy_133 : decode cX10_copy 133 = .ok (.iload 6, 2) := by decide +kernel
theorem dX10_copy_135 : decode cX10_copy 135 = .ok (.aload_n 0, 1) := by decide +kernel
theorem dX10_copy_136 : decode cX10_copy 136 = .ok (.getfield 19, 3) := by decide +kernel
theorem dX10_copy_139 : decode cX10_copy 139 = .ok (.bipush 60, 2) := by decide +kernel
theorem dX10_copy_141 : decode cX10_copy 141 = .ok (.iload_n 1, 1) := by decide +kernel
theorem dX10_copy_142 : decode cX10_copy 142 = .ok (.imul, 1) := by decide +kernel
theorem dX10_copy_143 : decode cX10_copy 143 = .ok (.iload_n 2, 1) := by decide +kernel
theorem dX10_copy_144 : decode cX10_copy 144 = .ok (.iadd, 1) := by decide +kernel
theorem dX10_copy_145 : decode cX10_copy 145 = .ok (.iload 6, 2) := by decide +kernel
theorem dX10_copy_147 : decode cX10_copy 147 = .ok (.iadd, 1) := by decide +kernel
theorem dX10_copy_148 : decode cX10_copy 148 = .ok (.laload, 1) := by decide +kernel
theorem dX10_copy_149 : decode cX10_copy 149 = .ok (.lastore, 1) := by decide +kernel
theorem dX10_copy_150 : decode cX10_copy 150 = .ok (.iinc 6 1, 3) := by decide +kernel
theorem dX10_copy_153 : decode cX10_copy 153 = .ok (.goto (-31), 3) := by decide +kernel
theorem dX10_copy_156 : decode cX10_copy 156 = .ok (.iconst 0, 1) := by decide +kernel
theorem dX10_copy_157 : decode cX10_copy 157 = .ok (.istore 6, 2) := by decide +kernel
theorem dX10_copy_159 : decode cX10_copy 159 = .ok (.iload 6, 2) := by decide +kernel
theorem dX10_copy_161 : decode cX10_copy 161 = .ok (.iload 5, 2) := by decide +kernel
theorem dX10_copy_163 : decode cX10_copy 163 = .ok (.if_icmp .ge 31, 3) := by decide +kernel
theorem dX10_copy_166 : decode cX10_copy 166 = .ok (.aload_n 0, 1) := by decide +kernel
theorem dX10_copy_167 : decode cX10_copy 167 = .ok (.getfield 19, 3) := by decide +kernel
theorem dX10_copy_170 : decode cX10_copy 170 = .ok (.bipush 60, 2) := by decide +kernel
theorem dX10_copy_172 : decode cX10_copy 172 = .ok (.iload_n 3, 1) := by decide +kernel
theorem dX10_copy_173 : decode cX10_copy 173 = .ok (.imul, 1) := by decide +kernel
theorem dX10_copy_174 : decode cX10_copy 174 = .ok (.iload 4, 2) := by decide +kernel
theorem dX10_copy_176 : decode cX10_copy 176 = .ok (.iadd, 1) := by decide +kernel
theorem dX10_copy_177 : decode cX10_copy 177 = .ok (.iload 6, 2) := by decide +kernel
theorem dX10_copy_179 : decode cX10_copy 179 = .ok (.iadd, 1) := by decide +kernel
theorem dX10_copy_180 : decode cX10_copy 180 = .ok (.aload_n 0, 1) := by decide +kernel
theorem dX10_copy_181 : decode cX10_copy 181 = .ok (.getfield 23, 3) := by decide +kernel
theorem dX10_copy_184 : decode cX10_copy 184 = .ok (.iload 6, 2) := by decide +kernel
theorem dX10_copy_186 : decode cX10_copy 186 = .ok (.laload, 1) := by decide +kernel
theorem dX10_copy_187 : decode cX10_copy 187 = .ok (.lastore, 1) := by decide +kernel
theorem dX10_copy_188 : decode cX10_copy 188 = .ok (.iinc 6 1, 3) := by decide +kernel
theorem dX10_copy_191 : decode cX10_copy 191 = .ok (.goto (-32), 3) := by decide +kernel
theorem dX10_copy_194 : decode cX10_copy 194 = .ok (.iconst 1, 1) := by decide +kernel
theorem dX10_copy_195 : decode cX10_copy 195 = .ok (.ireturn, 1) := by decide +kernel
theorem dX10_lose_0 : decode cX10_lose 0 = .ok (.iload_n 1, 1) := by decide +kernel
theorem dX10_lose_1 : decode cX10_lose 1 = .ok (.invokestatic 126, 3) := by decide +kernel
theorem dX10_lose_4 : decode cX10_lose 4 = .ok (.ifCond .ne 6, 3) := by decide +kernel
theorem dX10_lose_7 : decode cX10_lose 7 = .ok (.bipush (-101), 2) := by decide +kernel
theorem dX10_lose_9 : decode cX10_lose 9 = .ok (.ireturn, 1) := by decide +kernel
theorem dX10_lose_10 : decode cX10_lose 10 = .ok (.aload_n 0, 1) := by decide +kernel
theorem dX10_lose_11 : decode cX10_lose 11 = .ok (.getfield 13, 3) := by decide +kernel
theorem dX10_lose_14 : decode cX10_lose 14 = .ok (.iload_n 1, 1) := by decide +kernel
theorem dX10_lose_15 : decode cX10_lose 15 = .ok (.iaload, 1) := by decide +kernel
theorem dX10_lose_16 : decode cX10_lose 16 = .ok (.iconst (-1), 1) := by decide +kernel
theorem dX10_lose_17 : decode cX10_lose 17 = .ok (.if_icmp .ne 9, 3) := by decide +kernel
theorem dX10_lose_20 : decode cX10_lose 20 = .ok (.aload_n 0, 1) := by decide +kernel
theorem dX10_lose_21 : decode cX10_lose 21 = .ok (.iconst 1, 1) := by decide +kernel
theorem dX10_lose_22 : decode cX10_lose 22 = .ok (.invokevirtual 129, 3) := by decide +kernel
theorem dX10_lose_25 : decode cX10_lose 25 = .ok (.ireturn, 1) := by decide +kernel
theorem dX10_lose_26 : decode cX10_lose 26 = .ok (.aload_n 0, 1) := by decide +kernel
theorem dX10_lose_27 : decode cX10_lose 27 = .ok (.getfield 13, 3) := by decide +kernel
theorem dX10_lose_30 : decode cX10_lose 30 = .ok (.iload_n 1, 1) := by decide +kernel
theorem dX10_lose_31 : decode cX10_lose 31 = .ok (.iconst (-1), 1) := by decide +kernel
theorem dX10_lose_32 : decode cX10_lose 32 = .ok (.iastore, 1) := by decide +kernel
theorem dX10_lose_33 : decode cX10_lose 33 = .ok (.aload_n 0, 1) := by decide +kernel
theorem dX10_lose_34 : decode cX10_lose 34 = .ok (.getfield 16, 3) := by decide +kernel
theorem dX10_lose_37 : decode cX10_lose 37 = .ok (.iload_n 1, 1) := by decide +kernel
theorem dX10_lose_38 : decode cX10_lose 38 = .ok (.iaload, 1) := by decide +kernel
theorem dX10_lose_39 : decode cX10_lose 39 = .ok (.ireturn, 1) := by decide +kernel
theorem dX10_isSeries_0 : decode cX10_isSeries 0 = .ok (.iload_n 1, 1) := by decide +kernel
theorem dX10_isSeries_1 : decode cX10_isSeries 1 = .ok (.i2l, 1) := by decide +kernel
theorem dX10_isSeries_2 : decode cX10_isSeries 2 = .ok (.lconst 0, 1) := by decide +kernel
theorem dX10_isSeries_3 : decode cX10_isSeries 3 = .ok (.aload_n 0, 1) := by decide +kernel
theorem dX10_isSeries_4 : decode cX10_isSeries 4 = .ok (.getfield 115, 3) := by decide +kernel
theorem dX10_isSeries_7 : decode cX10_isSeries 7 = .ok (.iconst 1, 1) := by decide +kernel
theorem dX10_isSeries_8 : decode cX10_isSeries 8 = .ok (.isub, 1) := by decide +kernel
theorem dX10_isSeries_9 : decode cX10_isSeries 9 = .ok (.i2l, 1) := by decide +kernel
theorem dX10_isSeries_10 : decode cX10_isSeries 10 = .ok (.invokestatic 107, 3) := by decide +kernel
theorem dX10_isSeries_13 : decode cX10_isSeries 13 = .ok (.ireturn, 1) := by decide +kernel
theorem dX10_of_0 : decode cX10_of 0 = .ok (.aload_n 0, 1) := by decide +kernel
theorem dX10_of_1 : decode cX10_of 1 = .ok (.getfield 29, 3) := by decide +kernel
theorem dX10_of_4 : decode cX10_of 4 = .ok (.bipush 41, 2) := by decide +kernel
theorem dX10_of_6 : decode cX10_of 6 = .ok (.iload_n 1, 1) := by decide +kernel
theorem dX10_of_7 : decode cX10_of 7 = .ok (.imul, 1) := by decide +kernel
theorem dX10_of_8 : decode cX10_of 8 = .ok (.iload_n 2, 1) := by decide +kernel
theorem dX10_of_9 : decode cX10_of 9 = .ok (.iadd, 1) := by decide +kernel
theorem dX10_of_10 : decode cX10_of 10 = .ok (.iaload, 1) := by decide +kernel
theorem dX10_of_11 : decode cX10_of 11 = .ok (.ireturn, 1) := by decide +kernel
theorem dX10_comes_0 : decode cX10_comes 0 = .ok (.aload_n 0, 1) := by decide +kernel
theorem dX10_comes_1 : decode cX10_comes 1 = .ok (.getfield 115, 3) := by decide +kernel
theorem dX10_comes_4 : decode cX10_comes 4 = .ok (.bipush 10, 2) := by decide +kernel
theorem dX10_comes_6 : decode cX10_comes 6 = .ok (.if_icmp .ne 6, 3) := by decide +kernel
theorem dX10_comes_9 : decode cX10_comes 9 = .ok (.bipush (-104), 2) := by decide +kernel
theorem dX10_comes_11 : decode cX10_comes 11 = .ok (.ireturn, 1) := by decide +kernel
theorem dX10_comes_12 : decode cX10_comes 12 = .ok (.aload_n 0, 1) := by decide +kernel
theorem dX10_comes_13 : decode cX10_comes 13 = .ok (.getfield 26, 3) := by decide +kernel
theorem dX10_comes_16 : decode cX10_comes 16 = .ok (.aload_n 0, 1) := by decide +kernel
theorem dX10_comes_17 : decode cX10_comes 17 = .ok (.getfield 115, 3) := by decide +kernel
theorem dX10_comes_20 : decode cX10_comes 20 = .ok (.iload_n 1, 1) := by decide +kernel
theorem dX10_comes_21 : decode cX10_comes 21 = .ok (.iastore, 1) := by decide +kernel
theorem dX10_comes_22 : decode cX10_comes 22 = .ok (.iconst 0, 1) := by decide +kernel
theorem dX10_comes_23 : decode cX10_comes 23 = .ok (.istore_n 2, 1) := by decide +kernel
theorem dX10_comes_24 : decode cX10_comes 24 = .ok (.iload_n 2, 1) := by decide +kernel
theorem dX10_comes_25 : decode cX10_comes 25 = .ok (.iload_n 1, 1) := by decide +kernel
theorem dX10_comes_26 : decode cX10_comes 26 = .ok (.if_icmp .gt 29, 3) := by decide +kernel
theorem dX10_comes_29 : decode cX10_comes 29 = .ok (.aload_n 0, 1) := by decide +kernel
theorem dX10_comes_30 : decode cX10_comes 30 = .ok (.getfield 29, 3) := by decide +kernel
theorem dX10_comes_33 : decode cX10_comes 33 = .ok (.bipush 41, 2) := by decide +kernel
theorem dX10_comes_35 : decode cX10_comes 35 = .ok (.aload_n 0, 1) := by decide +kernel
theorem dX10_comes_36 : decode cX10_comes 36 = .ok (.getfield 115, 3) := by decide +kernel
theorem dX10_comes_39 : decode cX10_comes 39 = .ok (.imul, 1) := by decide +kernel
theorem dX10_comes_40 : decode cX10_comes 40 = .ok (.iload_n 2, 1) := by decide +kernel
theorem dX10_comes_41 : decode cX10_comes 41 = .ok (.iadd, 1) := by decide +kernel
theorem dX10_comes_42 : decode cX10_comes 42 = .ok (.aload_n 0, 1) := by decide +kernel
theorem dX10_comes_43 : decode cX10_comes 43 = .ok (.getfield 32, 3) := by decide +kernel
theorem dX10_comes_46 : decode cX10_comes 46 = .ok (.iload_n 2, 1) := by decide +kernel
theorem dX10_comes_47 : decode cX10_comes 47 = .ok (.iaload, 1) := by decide +kernel
theorem dX10_comes_48 : decode cX10_comes 48 = .ok (.iastore, 1) := by decide +kernel
theorem dX10_comes_49 : decode cX10_comes 49 = .ok (.iinc 2 1, 3) := by decide +kernel
theorem dX10_comes_52 : decode cX10_comes 52 = .ok (.goto (-28), 3) := by decide +kernel
theorem dX10_comes_55 : decode cX10_comes 55 = .ok (.aload_n 0, 1) := by decide +kernel
theorem dX10_comes_56 : decode cX10_comes 56 = .ok (.dup, 1) := by decide +kernel
theorem dX10_comes_57 : decode cX10_comes 57 = .ok (.getfield 115, 3) := by decide +kernel
theorem dX10_comes_60 : decode cX10_comes 60 = .ok (.iconst 1, 1) := by decide +kernel
theorem dX10_comes_61 : decode cX10_comes 61 = .ok (.iadd, 1) := by decide +kernel
theorem dX10_comes_62 : decode cX10_comes 62 = .ok (.putfield 115, 3) := by decide +kernel
theorem dX10_comes_65 : decode cX10_comes 65 = .ok (.aload_n 0, 1) := by decide +kernel
theorem dX10_comes_66 : decode cX10_comes 66 = .ok (.getfield 115, 3) := by decide +kernel
theorem dX10_comes_69 : decode cX10_comes 69 = .ok (.iconst 1, 1) := by decide +kernel
theorem dX10_comes_70 : decode cX10_comes 70 = .ok (.isub, 1) := by decide +kernel
theorem dX10_comes_71 : decode cX10_comes 71 = .ok (.ireturn, 1) := by decide +kernel
theorem dX10_series_0 : decode cX10_series 0 = .ok (.iload_n 1, 1) := by decide +kernel
theorem dX10_series_1 : decode cX10_series 1 = .ok (.invokestatic 126, 3) := by decide +kernel
theorem dX10_series_4 : decode cX10_series 4 = .ok (.ifCond .ne 6, 3) := by decide +kernel
theorem dX10_series_7 : decode cX10_series 7 = .ok (.bipush (-101), 2) := by decide +kernel
theorem dX10_series_9 : decode cX10_series 9 = .ok (.ireturn, 1) := by decide +kernel
theorem dX10_series_10 : decode cX10_series 10 = .ok (.iload_n 3, 1) := by decide +kernel
theorem dX10_series_11 : decode cX10_series 11 = .ok (.i2l, 1) := by decide +kernel
theorem dX10_series_12 : decode cX10_series 12 = .ok (.lconst 0, 1) := by decide +kernel
theorem dX10_series_13 : decode cX10_series 13 = .ok (.ldc2_w 133, 3) := by decide +kernel
theorem dX10_series_16 : decode cX10_series 16 = .ok (.invokestatic 107, 3) := by decide +kernel
theorem dX10_series_19 : decode cX10_series 19 = .ok (.ifCond .ne 6, 3) := by decide +kernel
theorem dX10_series_22 : decode cX10_series 22 = .ok (.bipush (-102), 2) := by decide +kernel
theorem dX10_series_24 : decode cX10_series 24 = .ok (.ireturn, 1) := by decide +kernel
theorem dX10_series_25 : decode cX10_series 25 = .ok (.aload_n 0, 1) := by decide +kernel
theorem dX10_series_26 : decode cX10_series 26 = .ok (.getfield 13, 3) := by decide +kernel
theorem dX10_series_29 : decode cX10_series 29 = .ok (.iload_n 1, 1) := by decide +kernel
theorem dX10_series_30 : decode cX10_series 30 = .ok (.iaload, 1) := by decide +kernel
theorem dX10_series_31 : decode cX10_series 31 = .ok (.iconst (-1), 1) := by decide +kernel
theorem dX10_series_32 : decode cX10_series 32 = .ok (.if_icmp .ne 9, 3) := by decide +kernel
theorem dX10_series_35 : decode cX10_series 35 = .ok (.aload_n 0, 1) := by decide +kernel
theorem dX10_series_36 : decode cX10_series 36 = .ok (.iconst 1, 1) := by decide +kernel
theorem dX10_series_37 : decode cX10_series 37 = .ok (.invokevirtual 129, 3) := by decide +kernel
theorem dX10_series_40 : decode cX10_series 40 = .ok (.ireturn, 1) := by decide +kernel
theorem dX10_series_41 : decode cX10_series 41 = .ok (.iload_n 2, 1) := by decide +kernel
theorem dX10_series_42 : decode cX10_series 42 = .ok (.ifCond .lt 21, 3) := by decide +kernel
theorem dX10_series_45 : decode cX10_series 45 = .ok (.iload_n 2, 1) := by decide +kernel
theorem dX10_series_46 : decode cX10_series 46 = .ok (.i2l, 1) := by decide +kernel
theorem dX10_series_47 : decode cX10_series 47 = .ok (.iload_n 3, 1) := by decide +kernel
theorem dX10_series_48 : decode cX10_series 48 = .ok (.i2l, 1) := by decide +kernel
theorem dX10_series_49 : decode cX10_series 49 = .ok (.ladd, 1) := by decide +kernel
theorem dX10_series_50 : decode cX10_series 50 = .ok (.lconst 1, 1) := by decide +kernel
theorem dX10_series_51 : decode cX10_series 51 = .ok (.ladd, 1) := by decide +kernel
theorem dX10_series_52 : decode cX10_series 52 = .ok (.aload_n 0, 1) := by decide +kernel
theorem dX10_series_53 : decode cX10_series 53 = .ok (.getfield 16, 3) := by decide +kernel
theorem dX10_series_56 : decode cX10_series 56 = .ok (.iload_n 1, 1) := by decide +kernel
theorem dX10_series_57 : decode cX10_series 57 = .ok (.iaload, 1) := by decide +kernel
theorem dX10_series_58 : decode cX10_series 58 = .ok (.i2l, 1) := by decide +kernel
theorem dX10_series_59 : decode cX10_series 59 = .ok (.lcmp, 1) := by decide +kernel
theorem dX10_series_60 : decode cX10_series 60 = .ok (.ifCond .le 9, 3) := by decide +kernel
theorem dX10_series_63 : decode cX10_series 63 = .ok (.aload_n 0, 1) := by decide +kernel
theorem dX10_series_64 : decode cX10_series 64 = .ok (.iconst 2, 1) := by decide +kernel
theorem dX10_series_65 : decode cX10_series 65 = .ok (.invokevirtual 129, 3) := by decide +kernel
theorem dX10_series_68 : decode cX10_series 68 = .ok (.ireturn, 1) := by decide +kernel
theorem dX10_series_69 : decode cX10_series 69 = .ok (.iconst 0, 1) := by decide +kernel
theorem dX10_series_70 : decode cX10_series 70 = .ok (.istore 4, 2) := by decide +kernel
theorem dX10_series_72 : decode cX10_series 72 = .ok (.iload 4, 2) := by decide +kernel
theorem dX10_series_74 : decode cX10_series 74 = .ok (.iload_n 3, 1) := by decide +kernel
theorem dX10_series_75 : decode cX10_series 75 = .ok (.if_icmp .gt 34, 3) := by decide +kernel
theorem dX10_series_78 : decode cX10_series 78 = .ok (.aload_n 0, 1) := by decide +kernel
theorem dX10_series_79 : decode cX10_series 79 = .ok (.getfield 32, 3) := by decide +kernel
theorem dX10_series_82 : decode cX10_series 82 = .ok (.iload 4, 2) := by decide +kernel
theorem dX10_series_84 : decode cX10_series 84 = .ok (.aload_n 0, 1) := by decide +kernel
theorem dX10_series_85 : decode cX10_series 85 = .ok (.aload_n 0, 1) := by decide +kernel
theorem dX10_series_86 : decode cX10_series 86 = .ok (.getfield 19, 3) := by decide +kernel
theorem dX10_series_89 : decode cX10_series 89 = .ok (.bipush 60, 2) := by decide +kernel
theorem dX10_series_91 : decode cX10_series 91 = .ok (.iload_n 1, 1) := by decide +kernel
theorem dX10_series_92 : decode cX10_series 92 = .ok (.imul, 1) := by decide +kernel
theorem dX10_series_93 : decode cX10_series 93 = .ok (.iload_n 2, 1) := by decide +kernel
theorem dX10_series_94 : decode cX10_series 94 = .ok (.iadd, 1) := by decide +kernel
theorem dX10_series_95 : decode cX10_series 95 = .ok (.iload 4, 2) := by decide +kernel
theorem dX10_series_97 : decode cX10_series 97 = .ok (.iadd, 1) := by decide +kernel
theorem dX10_series_98 : decode cX10_series 98 = .ok (.laload, 1) := by decide +kernel
theorem dX10_series_99 : decode cX10_series 99 = .ok (.invokevirtual 135, 3) := by decide +kernel
theorem dX10_series_102 : decode cX10_series 102 = .ok (.iastore, 1) := by decide +kernel
theorem dX10_series_103 : decode cX10_series 103 = .ok (.iinc 4 1, 3) := by decide +kernel
theorem dX10_series_106 : decode cX10_series 106 = .ok (.goto (-34), 3) := by decide +kernel
theorem dX10_series_109 : decode cX10_series 109 = .ok (.aload_n 0, 1) := by decide +kernel
theorem dX10_series_110 : decode cX10_series 110 = .ok (.iload_n 3, 1) := by decide +kernel
theorem dX10_series_111 : decode cX10_series 111 = .ok (.invokevirtual 139, 3) := by decide +kernel
theorem dX10_series_114 : decode cX10_series 114 = .ok (.ireturn, 1) := by decide +kernel
