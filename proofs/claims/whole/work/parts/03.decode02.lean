theorem dX6_readComparison_0 : decode cX6_readComparison 0 = .ok (.aload_n 0, 1) := by decide +kernel
theorem dX6_readComparison_1 : decode cX6_readComparison 1 = .ok (.invokevirtual 186, 3) := by decide +kernel
theorem dX6_readComparison_4 : decode cX6_readComparison 4 = .ok (.aload_n 0, 1) := by decide +kernel
theorem dX6_readComparison_5 : decode cX6_readComparison 5 = .ok (.bipush 60, 2) := by decide +kernel
theorem dX6_readComparison_7 : decode cX6_readComparison 7 = .ok (.invokevirtual 85, 3) := by decide +kernel
theorem dX6_readComparison_10 : decode cX6_readComparison 10 = .ok (.ifCond .eq 8, 3) := by decide +kernel
theorem dX6_readComparison_13 : decode cX6_readComparison 13 = .ok (.bipush (-17), 2) := by decide +kernel
theorem dX6_readComparison_15 : decode cX6_readComparison 15 = .ok (.goto 19, 3) := by decide +kernel
theorem dX6_readComparison_18 : decode cX6_readComparison 18 = .ok (.aload_n 0, 1) := by decide +kernel
theorem dX6_readComparison_19 : decode cX6_readComparison 19 = .ok (.bipush 62, 2) := by decide +kernel
theorem dX6_readComparison_21 : decode cX6_readComparison 21 = .ok (.invokevirtual 85, 3) := by decide +kernel
theorem dX6_readComparison_24 : decode cX6_readComparison 24 = .ok (.ifCond .eq 8, 3) := by decide +kernel
theorem dX6_readComparison_27 : decode cX6_readComparison 27 = .ok (.bipush (-18), 2) := by decide +kernel
theorem dX6_readComparison_29 : decode cX6_readComparison 29 = .ok (.goto 5, 3) := by decide +kernel
theorem dX6_readComparison_32 : decode cX6_readComparison 32 = .ok (.bipush (-19), 2) := by decide +kernel
theorem dX6_readComparison_34 : decode cX6_readComparison 34 = .ok (.istore_n 1, 1) := by decide +kernel
theorem dX6_readComparison_35 : decode cX6_readComparison 35 = .ok (.iload_n 1, 1) := by decide +kernel
theorem dX6_readComparison_36 : decode cX6_readComparison 36 = .ok (.bipush (-19), 2) := by decide +kernel
theorem dX6_readComparison_38 : decode cX6_readComparison 38 = .ok (.if_icmp .ne 18, 3) := by decide +kernel
theorem dX6_readComparison_41 : decode cX6_readComparison 41 = .ok (.aload_n 0, 1) := by decide +kernel
theorem dX6_readComparison_42 : decode cX6_readComparison 42 = .ok (.bipush 61, 2) := by decide +kernel
theorem dX6_readComparison_44 : decode cX6_readComparison 44 = .ok (.invokevirtual 85, 3) := by decide +kernel
theorem dX6_readComparison_47 : decode cX6_readComparison 47 = .ok (.ifCond .ne 9, 3) := by decide +kernel
theorem dX6_readComparison_50 : decode cX6_readComparison 50 = .ok (.aload_n 0, 1) := by decide +kernel
theorem dX6_readComparison_51 : decode cX6_readComparison 51 = .ok (.iconst 1, 1) := by decide +kernel
theorem dX6_readComparison_52 : decode cX6_readComparison 52 = .ok (.invokevirtual 92, 3) := by decide +kernel
theorem dX6_readComparison_55 : decode cX6_readComparison 55 = .ok (.return_, 1) := by decide +kernel
theorem dX6_readComparison_56 : decode cX6_readComparison 56 = .ok (.aload_n 0, 1) := by decide +kernel
theorem dX6_readComparison_57 : decode cX6_readComparison 57 = .ok (.getfield 12, 3) := by decide +kernel
theorem dX6_readComparison_60 : decode cX6_readComparison 60 = .ok (.invokevirtual 89, 3) := by decide +kernel
theorem dX6_readComparison_63 : decode cX6_readComparison 63 = .ok (.aload_n 0, 1) := by decide +kernel
theorem dX6_readComparison_64 : decode cX6_readComparison 64 = .ok (.invokevirtual 186, 3) := by decide +kernel
theorem dX6_readComparison_67 : decode cX6_readComparison 67 = .ok (.aload_n 0, 1) := by decide +kernel
theorem dX6_readComparison_68 : decode cX6_readComparison 68 = .ok (.iload_n 1, 1) := by decide +kernel
theorem dX6_readComparison_69 : decode cX6_readComparison 69 = .ok (.invokevirtual 200, 3) := by decide +kernel
theorem dX6_readComparison_72 : decode cX6_readComparison 72 = .ok (.return_, 1) := by decide +kernel
theorem dX6_readSum_0 : decode cX6_readSum 0 = .ok (.aload_n 0, 1) := by decide +kernel
theorem dX6_readSum_1 : decode cX6_readSum 1 = .ok (.invokevirtual 212, 3) := by decide +kernel
theorem dX6_readSum_4 : decode cX6_readSum 4 = .ok (.iconst 0, 1) := by decide +kernel
theorem dX6_readSum_5 : decode cX6_readSum 5 = .ok (.istore_n 1, 1) := by decide +kernel
theorem dX6_readSum_6 : decode cX6_readSum 6 = .ok (.iload_n 1, 1) := by decide +kernel
theorem dX6_readSum_7 : decode cX6_readSum 7 = .ok (.sipush 1600, 3) := by decide +kernel
theorem dX6_readSum_10 : decode cX6_readSum 10 = .ok (.if_icmp .ge 60, 3) := by decide +kernel
theorem dX6_readSum_13 : decode cX6_readSum 13 = .ok (.aload_n 0, 1) := by decide +kernel
theorem dX6_readSum_14 : decode cX6_readSum 14 = .ok (.bipush 43, 2) := by decide +kernel
theorem dX6_readSum_16 : decode cX6_readSum 16 = .ok (.invokevirtual 85, 3) := by decide +kernel
theorem dX6_readSum_19 : decode cX6_readSum 19 = .ok (.ifCond .ne 12, 3) := by decide +kernel
theorem dX6_readSum_22 : decode cX6_readSum 22 = .ok (.aload_n 0, 1) := by decide +kernel
theorem dX6_readSum_23 : decode cX6_readSum 23 = .ok (.bipush 45, 2) := by decide +kernel
theorem dX6_readSum_25 : decode cX6_readSum 25 = .ok (.invokevirtual 85, 3) := by decide +kernel
theorem dX6_readSum_28 : decode cX6_readSum 28 = .ok (.ifCond .eq 42, 3) := by decide +kernel
theorem dX6_readSum_31 : decode cX6_readSum 31 = .ok (.aload_n 0, 1) := by decide +kernel
theorem dX6_readSum_32 : decode cX6_readSum 32 = .ok (.bipush 43, 2) := by decide +kernel
theorem dX6_readSum_34 : decode cX6_readSum 34 = .ok (.invokevirtual 85, 3) := by decide +kernel
theorem dX6_readSum_37 : decode cX6_readSum 37 = .ok (.ifCond .eq 8, 3) := by decide +kernel
theorem dX6_readSum_40 : decode cX6_readSum 40 = .ok (.bipush (-10), 2) := by decide +kernel
theorem dX6_readSum_42 : decode cX6_readSum 42 = .ok (.goto 5, 3) := by decide +kernel
theorem dX6_readSum_45 : decode cX6_readSum 45 = .ok (.bipush (-11), 2) := by decide +kernel
theorem dX6_readSum_47 : decode cX6_readSum 47 = .ok (.istore_n 2, 1) := by decide +kernel
theorem dX6_readSum_48 : decode cX6_readSum 48 = .ok (.aload_n 0, 1) := by decide +kernel
theorem dX6_readSum_49 : decode cX6_readSum 49 = .ok (.getfield 12, 3) := by decide +kernel
theorem dX6_readSum_52 : decode cX6_readSum 52 = .ok (.invokevirtual 89, 3) := by decide +kernel
theorem dX6_readSum_55 : decode cX6_readSum 55 = .ok (.aload_n 0, 1) := by decide +kernel
theorem dX6_readSum_56 : decode cX6_readSum 56 = .ok (.invokevirtual 212, 3) := by decide +kernel
theorem dX6_readSum_59 : decode cX6_readSum 59 = .ok (.aload_n 0, 1) := by decide +kernel
theorem dX6_readSum_60 : decode cX6_readSum 60 = .ok (.iload_n 2, 1) := by decide +kernel
theorem dX6_readSum_61 : decode cX6_readSum 61 = .ok (.invokevirtual 200, 3) := by decide +kernel
theorem dX6_readSum_64 : decode cX6_readSum 64 = .ok (.iinc 1 1, 3) := by decide +kernel
theorem dX6_readSum_67 : decode cX6_readSum 67 = .ok (.goto (-61), 3) := by decide +kernel
theorem dX6_readSum_70 : decode cX6_readSum 70 = .ok (.return_, 1) := by decide +kernel
theorem dX6_readProduct_0 : decode cX6_readProduct 0 = .ok (.aload_n 0, 1) := by decide +kernel
theorem dX6_readProduct_1 : decode cX6_readProduct 1 = .ok (.invokevirtual 215, 3) := by decide +kernel
theorem dX6_readProduct_4 : decode cX6_readProduct 4 = .ok (.iconst 0, 1) := by decide +kernel
theorem dX6_readProduct_5 : decode cX6_readProduct 5 = .ok (.istore_n 1, 1) := by decide +kernel
theorem dX6_readProduct_6 : decode cX6_readProduct 6 = .ok (.iload_n 1, 1) := by decide +kernel
theorem dX6_readProduct_7 : decode cX6_readProduct 7 = .ok (.sipush 1600, 3) := by decide +kernel
theorem dX6_readProduct_10 : decode cX6_readProduct 10 = .ok (.if_icmp .ge 83, 3) := by decide +kernel
theorem dX6_readProduct_13 : decode cX6_readProduct 13 = .ok (.aload_n 0, 1) := by decide +kernel
theorem dX6_readProduct_14 : decode cX6_readProduct 14 = .ok (.bipush 42, 2) := by decide +kernel
theorem dX6_readProduct_16 : decode cX6_readProduct 16 = .ok (.invokevirtual 85, 3) := by decide +kernel
theorem dX6_readProduct_19 : decode cX6_readProduct 19 = .ok (.ifCond .ne 21, 3) := by decide +kernel
theorem dX6_readProduct_22 : decode cX6_readProduct 22 = .ok (.aload_n 0, 1) := by decide +kernel
theorem dX6_readProduct_23 : decode cX6_readProduct 23 = .ok (.bipush 47, 2) := by decide +kernel
theorem dX6_readProduct_25 : decode cX6_readProduct 25 = .ok (.invokevirtual 85, 3) := by decide +kernel
theorem dX6_readProduct_28 : decode cX6_readProduct 28 = .ok (.ifCond .ne 12, 3) := by decide +kernel
theorem dX6_readProduct_31 : decode cX6_readProduct 31 = .ok (.aload_n 0, 1) := by decide +kernel
theorem dX6_readProduct_32 : decode cX6_readProduct 32 = .ok (.bipush 37, 2) := by decide +kernel
theorem dX6_readProduct_34 : decode cX6_readProduct 34 = .ok (.invokevirtual 85, 3) := by decide +kernel
theorem dX6_readProduct_37 : decode cX6_readProduct 37 = .ok (.ifCond .eq 56, 3) := by decide +kernel
theorem dX6_readProduct_40 : decode cX6_readProduct 40 = .ok (.aload_n 0, 1) := by decide +kernel
theorem dX6_readProduct_41 : decode cX6_readProduct 41 = .ok (.bipush 42, 2) := by decide +kernel
theorem dX6_readProduct_43 : decode cX6_readProduct 43 = .ok (.invokevirtual 85, 3) := by decide +kernel
theorem dX6_readProduct_46 : decode cX6_readProduct 46 = .ok (.ifCond .eq 8, 3) := by decide +kernel
theorem dX6_readProduct_49 : decode cX6_readProduct 49 = .ok (.bipush (-12), 2) := by decide +kernel
theorem dX6_readProduct_51 : decode cX6_readProduct 51 = .ok (.goto 19, 3) := by decide +kernel
theorem dX6_readProduct_54 : decode cX6_readProduct 54 = .ok (.aload_n 0, 1) := by decide +kernel
theorem dX6_readProduct_55 : decode cX6_readProduct 55 = .ok (.bipush 47, 2) := by decide +kernel
theorem dX6_readProduct_57 : decode cX6_readProduct 57 = .ok (.invokevirtual 85, 3) := by decide +kernel
theorem dX6_readProduct_60 : decode cX6_readProduct 60 = .ok (.ifCond .eq 8, 3) := by decide +kernel
theorem dX6_readProduct_63 : decode cX6_readProduct 63 = .ok (.bipush (-13), 2) := by decide +kernel
theorem dX6_readProduct_65 : decode cX6_readProduct 65 = .ok (.goto 5, 3) := by decide +kernel
theorem dX6_readProduct_68 : decode cX6_readProduct 68 = .ok (.bipush (-14), 2) := by decide +kernel
theorem dX6_readProduct_70 : decode cX6_readProduct 70 = .ok (.istore_n 2, 1) := by decide +kernel
theorem dX6_readProduct_71 : decode cX6_readProduct 71 = .ok (.aload_n 0, 1) := by decide +kernel
theorem dX6_readProduct_72 : decode cX6_readProduct 72 = .ok (.getfield 12, 3) := by decide +kernel
theorem dX6_readProduct_75 : decode cX6_readProduct 75 = .ok (.invokevirtual 89, 3) := by decide +kernel
theorem dX6_readProduct_78 : decode cX6_readProduct 78 = .ok (.aload_n 0, 1) := by decide +kernel
theorem dX6_readProduct_79 : decode cX6_readProduct 79 = .ok (.invokevirtual 215, 3) := by decide +kernel
theorem dX6_readProduct_82 : decode cX6_readProduct 82 = .ok (.aload_n 0, 1) := by decide +kernel
theorem dX6_readProduct_83 : decode cX6_readProduct 83 = .ok (.iload_n 2, 1) := by decide +kernel
theorem dX6_readProduct_84 : decode cX6_readProduct 84 = .ok (.invokevirtual 200, 3) := by decide +kernel
theorem dX6_readProduct_87 : decode cX6_readProduct 87 = .ok (.iinc 1 1, 3) := by decide +kernel
theorem dX6_readProduct_90 : decode cX6_readProduct 90 = .ok (.goto (-84), 3) := by decide +kernel
theorem dX6_readProduct_93 : decode cX6_readProduct 93 = .ok (.return_, 1) := by decide +kernel
theorem dX6_readPart_0 : decode cX6_readPart 0 = .ok (.aload_n 0, 1) := by decide +kernel
theorem dX6_readPart_1 : decode cX6_readPart 1 = .ok (.aload_n 0, 1) := by decide +kernel
theorem dX6_readPart_2 : decode cX6_readPart 2 = .ok (.invokevirtual 96, 3) := by decide +kernel
theorem dX6_readPart_5 : decode cX6_readPart 5 = .ok (.invokevirtual 218, 3) := by decide +kernel
theorem dX6_readPart_8 : decode cX6_readPart 8 = .ok (.istore_n 1, 1) := by decide +kernel
theorem dX6_readPart_9 : decode cX6_readPart 9 = .ok (.aload_n 0, 1) := by decide +kernel
theorem dX6_readPart_10 : decode cX6_readPart 10 = .ok (.getfield 12, 3) := by decide +kernel
theorem dX6_readPart_13 : decode cX6_readPart 13 = .ok (.invokevirtual 51, 3) := by decide +kernel
theorem dX6_readPart_16 : decode cX6_readPart 16 = .ok (.iconst 3, 1) := by decide +kernel
theorem dX6_readPart_17 : decode cX6_readPart 17 = .ok (.if_icmp .ne 24, 3) := by decide +kernel
theorem dX6_readPart_20 : decode cX6_readPart 20 = .ok (.aload_n 0, 1) := by decide +kernel
theorem dX6_readPart_21 : decode cX6_readPart 21 = .ok (.aload_n 0, 1) := by decide +kernel
theorem dX6_readPart_22 : decode cX6_readPart 22 = .ok (.getfield 12, 3) := by decide +kernel
theorem dX6_readPart_25 : decode cX6_readPart 25 = .ok (.invokevirtual 78, 3) := by decide +kernel
theorem dX6_readPart_28 : decode cX6_readPart 28 = .ok (.invokevirtual 200, 3) := by decide +kernel
theorem dX6_readPart_31 : decode cX6_readPart 31 = .ok (.aload_n 0, 1) := by decide +kernel
theorem dX6_readPart_32 : decode cX6_readPart 32 = .ok (.getfield 12, 3) := by decide +kernel
theorem dX6_readPart_35 : decode cX6_readPart 35 = .ok (.invokevirtual 89, 3) := by decide +kernel
theorem dX6_readPart_38 : decode cX6_readPart 38 = .ok (.goto 104, 3) := by decide +kernel
theorem dX6_readPart_41 : decode cX6_readPart 41 = .ok (.iload_n 1, 1) := by decide +kernel
theorem dX6_readPart_42 : decode cX6_readPart 42 = .ok (.ifCond .eq 18, 3) := by decide +kernel
theorem dX6_readPart_45 : decode cX6_readPart 45 = .ok (.aload_n 0, 1) := by decide +kernel
theorem dX6_readPart_46 : decode cX6_readPart 46 = .ok (.iload_n 1, 1) := by decide +kernel
theorem dX6_readPart_47 : decode cX6_readPart 47 = .ok (.invokevirtual 200, 3) := by decide +kernel
theorem dX6_readPart_50 : decode cX6_readPart 50 = .ok (.aload_n 0, 1) := by decide +kernel
theorem dX6_readPart_51 : decode cX6_readPart 51 = .ok (.getfield 12, 3) := by decide +kernel
theorem dX6_readPart_54 : decode cX6_readPart 54 = .ok (.invokevirtual 89, 3) := by decide +kernel
theorem dX6_readPart_57 : decode cX6_readPart 57 = .ok (.goto 85, 3) := by decide +kernel
theorem dX6_readPart_60 : decode cX6_readPart 60 = .ok (.aload_n 0, 1) := by decide +kernel
theorem dX6_readPart_61 : decode cX6_readPart 61 = .ok (.bipush 40, 2) := by decide +kernel
theorem dX6_readPart_63 : decode cX6_readPart 63 = .ok (.invokevirtual 85, 3) := by decide +kernel
theorem dX6_readPart_66 : decode cX6_readPart 66 = .ok (.ifCond .eq 33, 3) := by decide +kernel
theorem dX6_readPart_69 : decode cX6_readPart 69 = .ok (.aload_n 0, 1) := by decide +kernel
theorem dX6_readPart_70 : decode cX6_readPart 70 = .ok (.invokevirtual 206, 3) := by decide +kernel
theorem dX6_readPart_73 : decode cX6_readPart 73 = .ok (.ifCond .eq 69, 3) := by decide +kernel
theorem dX6_readPart_76 : decode cX6_readPart 76 = .ok (.aload_n 0, 1) := by decide +kernel
theorem dX6_readPart_77 : decode cX6_readPart 77 = .ok (.invokevirtual 186, 3) := by decide +kernel
theorem dX6_readPart_80 : decode cX6_readPart 80 = .ok (.aload_n 0, 1) := by decide +kernel
theorem dX6_readPart_81 : decode cX6_readPart 81 = .ok (.dup, 1) := by decide +kernel
theorem dX6_readPart_82 : decode cX6_readPart 82 = .ok (.getfield 18, 3) := by decide +kernel
theorem dX6_readPart_85 : decode cX6_readPart 85 = .ok (.iconst 1, 1) := by decide +kernel
theorem dX6_readPart_86 : decode cX6_readPart 86 = .ok (.isub, 1) := by decide +kernel
theorem dX6_readPart_87 : decode cX6_readPart 87 = .ok (.putfield 18, 3) := by decide +kernel
theorem dX6_readPart_90 : decode cX6_readPart 90 = .ok (.aload_n 0, 1) := by decide +kernel
theorem dX6_readPart_91 : decode cX6_readPart 91 = .ok (.bipush 41, 2) := by decide +kernel
theorem dX6_readPart_93 : decode cX6_readPart 93 = .ok (.invokevirtual 128, 3) := by decide +kernel
theorem dX6_readPart_96 : decode cX6_readPart 96 = .ok (.goto 46, 3) := by decide +kernel
theorem dX6_readPart_99 : decode cX6_readPart 99 = .ok (.aload_n 0, 1) := by decide +kernel
theorem dX6_readPart_100 : decode cX6_readPart 100 = .ok (.bipush 26, 2) := by decide +kernel
theorem dX6_readPart_102 : decode cX6_readPart 102 = .ok (.invokevirtual 156, 3) := by decide +kernel
theorem dX6_readPart_105 : decode cX6_readPart 105 = .ok (.ifCond .ne 21, 3) := by decide +kernel
theorem dX6_readPart_108 : decode cX6_readPart 108 = .ok (.aload_n 0, 1) := by decide +kernel
theorem dX6_readPart_109 : decode cX6_readPart 109 = .ok (.bipush 27, 2) := by decide +kernel
theorem dX6_readPart_111 : decode cX6_readPart 111 = .ok (.invokevirtual 156, 3) := by decide +kernel
theorem dX6_readPart_114 : decode cX6_readPart 114 = .ok (.ifCond .ne 12, 3) := by decide +kernel
theorem dX6_readPart_117 : decode cX6_readPart 117 = .ok (.aload_n 0, 1) := by decide +kernel
theorem dX6_readPart_118 : decode cX6_readPart 118 = .ok (.bipush 21, 2) := by decide +kernel
theorem dX6_readPart_120 : decode cX6_readPart 120 = .ok (.invokevirtual 156, 3) := by decide +kernel
theorem dX6_readPart_123 : decode cX6_readPart 123 = .ok (.ifCond .eq 14, 3) := by decide +kernel
theorem dX6_readPart_126 : decode cX6_readPart 126 = .ok (.aload_n 0, 1) := by decide +kernel
theorem dX6_readPart_127 : decode cX6_readPart 127 = .ok (.aload_n 0, 1) := by decide +kernel
theorem dX6_readPart_128 : decode cX6_readPart 128 = .ok (.invokevirtual 96, 3) := by decide +kernel
theorem dX6_readPart_131 : decode cX6_readPart 131 = .ok (.invokevirtual 221, 3) := by decide +kernel
theorem dX6_readPart_134 : decode cX6_readPart 134 = .ok (.goto 8, 3) := by decide +kernel
theorem dX6_readPart_137 : decode cX6_readPart 137 = .ok (.aload_n 0, 1) := by decide +kernel
theorem dX6_readPart_138 : decode cX6_readPart 138 = .ok (.iconst 1, 1) := by decide +kernel
theorem dX6_readPart_139 : decode cX6_readPart 139 = .ok (.invokevirtual 92, 3) := by decide +kernel
theorem dX6_readPart_142 : decode cX6_readPart 142 = .ok (.return_, 1) := by decide +kernel
theorem dX6_readChosen_0 : decode cX6_readChosen 0 = .ok (.aload_n 0, 1) := by decide +kernel
theorem dX6_readChosen_1 : decode cX6_readChosen 1 = .ok (.getfield 12, 3) := by decide +kernel
theorem dX6_readChosen_4 : decode cX6_readChosen 4 = .ok (.invokevirtual 89, 3) := by decide +kernel
theorem dX6_readChosen_7 : decode cX6_readChosen 7 = .ok (.aload_n 0, 1) := by decide +kernel
theorem dX6_readChosen_8 : decode cX6_readChosen 8 = .ok (.bipush 40, 2) := by decide +kernel
theorem dX6_readChosen_10 : decode cX6_readChosen 10 = .ok (.invokevirtual 85, 3) := by decide +kernel
theorem dX6_readChosen_13 : decode cX6_readChosen 13 = .ok (.ifCond .ne 9, 3) := by decide +kernel
theorem dX6_readChosen_16 : decode cX6_readChosen 16 = .ok (.aload_n 0, 1) := by decide +kernel
theorem dX6_readChosen_17 : decode cX6_readChosen 17 = .ok (.iconst 1, 1) := by decide +kernel
theorem dX6_readChosen_18 : decode cX6_readChosen 18 = .ok (.invokevirtual 92, 3) := by decide +kernel
theorem dX6_readChosen_21 : decode cX6_readChosen 21 = .ok (.return_, 1) := by decide +kernel
theorem dX6_readChosen_22 : decode cX6_readChosen 22 = .ok (.aload_n 0, 1) := by decide +kernel
theorem dX6_readChosen_23 : decode cX6_readChosen 23 = .ok (.invokevirtual 206, 3) := by decide +kernel
theorem dX6_readChosen_26 : decode cX6_readChosen 26 = .ok (.ifCond .ne 4, 3) := by decide +kernel
theorem dX6_readChosen_29 : decode cX6_readChosen 29 = .ok (.return_, 1) := by decide +kernel
theorem dX6_readChosen_30 : decode cX6_readChosen 30 = .ok (.iload_n 1, 1) := by decide +kernel
theorem dX6_readChosen_31 : decode cX6_readChosen 31 = .ok (.bipush 21, 2) := by decide +kernel
theorem dX6_readChosen_33 : decode cX6_readChosen 33 = .ok (.if_icmp .ne 13, 3) := by decide +kernel
theorem dX6_readChosen_36 : decode cX6_readChosen 36 = .ok (.aload_n 0, 1) := by decide +kernel
theorem dX6_readChosen_37 : decode cX6_readChosen 37 = .ok (.invokevirtual 183, 3) := by decide +kernel
theorem dX6_readChosen_40 : decode cX6_readChosen 40 = .ok (.aload_n 0, 1) := by decide +kernel
theorem dX6_readChosen_41 : decode cX6_readChosen 41 = .ok (.bipush 44, 2) := by decide +kernel
theorem dX6_readChosen_43 : decode cX6_readChosen 43 = .ok (.invokevirtual 128, 3) := by decide +kernel
theorem dX6_readChosen_46 : decode cX6_readChosen 46 = .ok (.aload_n 0, 1) := by decide +kernel
theorem dX6_readChosen_47 : decode cX6_readChosen 47 = .ok (.invokevirtual 186, 3) := by decide +kernel
theorem dX6_readChosen_50 : decode cX6_readChosen 50 = .ok (.aload_n 0, 1) := by decide +kernel
theorem dX6_readChosen_51 : decode cX6_readChosen 51 = .ok (.bipush 44, 2) := by decide +kernel
theorem dX6_readChosen_53 : decode cX6_readChosen 53 = .ok (.invokevirtual 128, 3) := by decide +kernel
theorem dX6_readChosen_56 : decode cX6_readChosen 56 = .ok (.aload_n 0, 1) := by decide +kernel
theorem dX6_readChosen_57 : decode cX6_readChosen 57 = .ok (.invokevirtual 186, 3) := by decide +kernel
theorem dX6_readChosen_60 : decode cX6_readChosen 60 = .ok (.aload_n 0, 1) := by decide +kernel
theorem dX6_readChosen_61 : decode cX6_readChosen 61 = .ok (.dup, 1) := by decide +kernel
theorem dX6_readChosen_62 : decode cX6_readChosen 62 = .ok (.getfield 18, 3) := by decide +kernel
theorem dX6_readChosen_65 : decode cX6_readChosen 65 = .ok (.iconst 1, 1) := by decide +kernel
theorem dX6_readChosen_66 : decode cX6_readChosen 66 = .ok (.isub, 1) := by decide +kernel
theorem dX6_readChosen_67 : decode cX6_readChosen 67 = .ok (.putfield 18, 3) := by decide +kernel
theorem dX6_readChosen_70 : decode cX6_readChosen 70 = .ok (.aload_n 0, 1) := by decide +kernel
theorem dX6_readChosen_71 : decode cX6_readChosen 71 = .ok (.bipush 41, 2) := by decide +kernel
theorem dX6_readChosen_73 : decode cX6_readChosen 73 = .ok (.invokevirtual 128, 3) := by decide +kernel
theorem dX6_readChosen_76 : decode cX6_readChosen 76 = .ok (.aload_n 0, 1) := by decide +kernel
theorem dX6_readChosen_77 : decode cX6_readChosen 77 = .ok (.iload_n 1, 1) := by decide +kernel
theorem dX6_readChosen_78 : decode cX6_readChosen 78 = .ok (.bipush 26, 2) := by decide +kernel
theorem dX6_readChosen_80 : decode cX6_readChosen 80 = .ok (.if_icmp .ne 8, 3) := by decide +kernel
theorem dX6_readChosen_83 : decode cX6_readChosen 83 = .ok (.bipush (-15), 2) := by decide +kernel
theorem dX6_readChosen_85 : decode cX6_readChosen 85 = .ok (.goto 16, 3) := by decide +kernel
theorem dX6_readChosen_88 : decode cX6_readChosen 88 = .ok (.iload_n 1, 1) := by decide +kernel
theorem dX6_readChosen_89 : decode cX6_readChosen 89 = .ok (.bipush 27, 2) := by decide +kernel
theorem dX6_readChosen_91 : decode cX6_readChosen 91 = .ok (.if_icmp .ne 8, 3) := by decide +kernel
theorem dX6_readChosen_94 : decode cX6_readChosen 94 = .ok (.bipush (-16), 2) := by decide +kernel
theorem dX6_readChosen_96 : decode cX6_readChosen 96 = .ok (.goto 5, 3) := by decide +kernel
theorem dX6_readChosen_99 : decode cX6_readChosen 99 = .ok (.bipush (-23), 2) := by decide +kernel
theorem dX6_readChosen_101 : decode cX6_readChosen 101 = .ok (.invokevirtual 200, 3) := by decide +kernel
theorem dX6_readChosen_104 : decode cX6_readChosen 104 = .ok (.return_, 1) := by decide +kernel
theorem dX6_variable_0 : decode cX6_variable 0 = .ok (.iload_n 1, 1) := by decide +kernel
theorem dX6_variable_1 : decode cX6_variable 1 = .ok (.bipush 15, 2) := by decide +kernel
theorem dX6_variable_3 : decode cX6_variable 3 = .ok (.if_icmp .ne 5, 3) := by decide +kernel
theorem dX6_variable_6 : decode cX6_variable 6 = .ok (.iconst (-1), 1) := by decide +kernel
theorem dX6_variable_7 : decode cX6_variable 7 = .ok (.ireturn, 1) := by decide +kernel
theorem dX6_variable_8 : decode cX6_variable 8 = .ok (.aload_n 0, 1) := by decide +kernel
theorem dX6_variable_9 : decode cX6_variable 9 = .ok (.getfield 22, 3) := by decide +kernel
theorem dX6_variable_12 : decode cX6_variable 12 = .ok (.iconst 2, 1) := by decide +kernel
theorem dX6_variable_13 : decode cX6_variable 13 = .ok (.if_icmp .ne 27, 3) := by decide +kernel
theorem dX6_variable_16 : decode cX6_variable 16 = .ok (.iload_n 1, 1) := by decide +kernel
theorem dX6_variable_17 : decode cX6_variable 17 = .ok (.bipush 6, 2) := by decide +kernel
theorem dX6_variable_19 : decode cX6_variable 19 = .ok (.if_icmp .ne 8, 3) := by decide +kernel
theorem dX6_variable_22 : decode cX6_variable 22 = .ok (.bipush (-8), 2) := by decide +kernel
theorem dX6_variable_24 : decode cX6_variable 24 = .ok (.goto 15, 3) := by decide +kernel
theorem dX6_variable_27 : decode cX6_variable 27 = .ok (.iload_n 1, 1) := by decide +kernel
theorem dX6_variable_28 : decode cX6_variable 28 = .ok (.bipush 20, 2) := by decide +kernel
theorem dX6_variable_30 : decode cX6_variable 30 = .ok (.if_icmp .ne 8, 3) := by decide +kernel
theorem dX6_variable_33 : decode cX6_variable 33 = .ok (.bipush (-9), 2) := by decide +kernel
theorem dX6_variable_35 : decode cX6_variable 35 = .ok (.goto 4, 3) := by decide +kernel
theorem dX6_variable_38 : decode cX6_variable 38 = .ok (.iconst 0, 1) := by decide +kernel
theorem dX6_variable_39 : decode cX6_variable 39 = .ok (.ireturn, 1) := by decide +kernel
theorem dX6_variable_40 : decode cX6_variable 40 = .ok (.iload_n 1, 1) := by decide +kernel
theorem dX6_variable_41 : decode cX6_variable 41 = .ok (.bipush 16, 2) := by decide +kernel
theorem dX6_variable_43 : decode cX6_variable 43 = .ok (.if_icmp .ne 6, 3) := by decide +kernel
theorem dX6_variable_46 : decode cX6_variable 46 = .ok (.bipush (-2), 2) := by decide +kernel
theorem dX6_variable_48 : decode cX6_variable 48 = .ok (.ireturn, 1) := by decide +kernel
theorem dX6_variable_49 : decode cX6_variable 49 = .ok (.iload_n 1, 1) := by decide +kernel
theorem dX6_variable_50 : decode cX6_variable 50 = .ok (.iconst 3, 1) := by decide +kernel
theorem dX6_variable_51 : decode cX6_variable 51 = .ok (.if_icmp .ne 6, 3) := by decide +kernel
theorem dX6_variable_54 : decode cX6_variable 54 = .ok (.bipush (-3), 2) := by decide +kernel
theorem dX6_variable_56 : decode cX6_variable 56 = .ok (.ireturn, 1) := by decide +kernel
theorem dX6_variable_57 : decode cX6_variable 57 = .ok (.aload_n 0, 1) := by decide +kernel
theorem dX6_variable_58 : decode cX6_variable 58 = .ok (.getfield 22, 3) := by decide +kernel
theorem dX6_variable_61 : decode cX6_variable 61 = .ok (.iconst 1, 1) := by decide +kernel
theorem dX6_variable_62 : decode cX6_variable 62 = .ok (.if_icmp .ne 5, 3) := by decide +kernel
theorem dX6_variable_65 : decode cX6_variable 65 = .ok (.iconst 0, 1) := by decide +kernel
theorem dX6_variable_66 : decode cX6_variable 66 = .ok (.ireturn, 1) := by decide +kernel
theorem dX6_variable_67 : decode cX6_variable 67 = .ok (.iload_n 1, 1) := by decide +kernel
theorem dX6_variable_68 : decode cX6_variable 68 = .ok (.tableswitch 52 14 19 #[49, 52, 52, 40, 43, 46], 40) := by decide +kernel
theorem dX6_variable_108 : decode cX6_variable 108 = .ok (.bipush (-4), 2) := by decide +kernel
theorem dX6_variable_110 : decode cX6_variable 110 = .ok (.ireturn, 1) := by decide +kernel
theorem dX6_variable_111 : decode cX6_variable 111 = .ok (.bipush (-5), 2) := by decide +kernel
theorem dX6_variable_113 : decode cX6_variable 113 = .ok (.ireturn, 1) := by decide +kernel
theorem dX6_variable_114 : decode cX6_variable 114 = .ok (.bipush (-6), 2) := by decide +kernel
theorem dX6_variable_116 : decode cX6_variable 116 = .ok (.ireturn, 1) := by decide +kernel
theorem dX6_variable_117 : decode cX6_variable 117 = .ok (.bipush (-7), 2) := by decide +kernel
theorem dX6_variable_119 : decode cX6_variable 119 = .ok (.ireturn, 1) := by decide +kernel
theorem dX6_variable_120 : decode cX6_variable 120 = .ok (.iconst 0, 1) := by decide +kernel
theorem dX6_variable_121 : decode cX6_variable 121 = .ok (.ireturn, 1) := by decide +kernel
theorem dX7_init_0 : decode cX7_init 0 = .ok (.aload_n 0, 1) := by decide +kernel
theorem dX7_init_1 : decode cX7_init 1 = .ok (.invokespecial 3, 3) := by decide +kernel
theorem dX7_init_4 : decode cX7_init 4 = .ok (.aload_n 0, 1) := by decide +kernel
theorem dX7_init_5 : decode cX7_init 5 = .ok (.iconst 0, 1) := by decide +kernel
theorem dX7_init_6 : decode cX7_init 6 = .ok (.putfield 9, 3) := by decide +kernel
theorem dX7_init_9 : decode cX7_init 9 = .ok (.aload_n 0, 1) := by decide +kernel
theorem dX7_init_10 : decode cX7_init 10 = .ok (.iconst 0, 1) := by decide +kernel
theorem dX7_init_11 : decode cX7_init 11 = .ok (.putfield 15, 3) := by decide +kernel
theorem dX7_init_14 : decode cX7_init 14 = .ok (.aload_n 0, 1) := by decide +kernel
theorem dX7_init_15 : decode cX7_init 15 = .ok (.iconst 0, 1) := by decide +kernel
theorem dX7_init_16 : decode cX7_init 16 = .ok (.putfield 18, 3) := by decide +kernel
theorem dX7_init_19 : decode cX7_init 19 = .ok (.aload_n 0, 1) := by decide +kernel
theorem dX7_init_20 : decode cX7_init 20 = .ok (.bipush 6, 2) := by decide +kernel
theorem dX7_init_22 : decode cX7_init 22 = .ok (.newarray .int, 2) := by decide +kernel
theorem dX7_init_24 : decode cX7_init 24 = .ok (.putfield 21, 3) := by decide +kernel
theorem dX7_init_27 : decode cX7_init 27 = .ok (.aload_n 0, 1) := by decide +kernel
theorem dX7_init_28 : decode cX7_init 28 = .ok (.bipush 6, 2) := by decide +kernel
theorem dX7_init_30 : decode cX7_init 30 = .ok (.newarray .int, 2) := by decide +kernel
theorem dX7_init_32 : decode cX7_init 32 = .ok (.putfield 25, 3) := by decide +kernel
theorem dX7_init_35 : decode cX7_init 35 = .ok (.aload_n 0, 1) := by decide +kernel
theorem dX7_init_36 : decode cX7_init 36 = .ok (.bipush 6, 2) := by decide +kernel
theorem dX7_init_38 : decode cX7_init 38 = .ok (.newarray .int, 2) := by decide +kernel
theorem dX7_init_40 : decode cX7_init 40 = .ok (.putfield 28, 3) := by decide +kernel
theorem dX7_init_43 : decode cX7_init 43 = .ok (.aload_n 0, 1) := by decide +kernel
theorem dX7_init_44 : decode cX7_init 44 = .ok (.bipush 120, 2) := by decide +kernel
theorem dX7_init_46 : decode cX7_init 46 = .ok (.newarray .int, 2) := by decide +kernel
theorem dX7_init_48 : decode cX7_init 48 = .ok (.putfield 31, 3) := by decide +kernel
theorem dX7_init_51 : decode cX7_init 51 = .ok (.return_, 1) := by decide +kernel
theorem dX7_begin_0 : decode cX7_begin 0 = .ok (.aload_n 0, 1) := by decide +kernel
theorem dX7_begin_1 : decode cX7_begin 1 = .ok (.iconst 0, 1) := by decide +kernel
theorem dX7_begin_2 : decode cX7_begin 2 = .ok (.putfield 9, 3) := by decide +kernel
theorem dX7_begin_5 : decode cX7_begin 5 = .ok (.aload_n 0, 1) := by decide +kernel
theorem dX7_begin_6 : decode cX7_begin 6 = .ok (.aload_n 1, 1) := by decide +kernel
theorem dX7_begin_7 : decode cX7_begin 7 = .ok (.getfield 34, 3) := by decide +kernel
theorem dX7_begin_10 : decode cX7_begin 10 = .ok (.putfield 15, 3) := by decide +kernel
theorem dX7_begin_13 : decode cX7_begin 13 = .ok (.aload_n 0, 1) := by decide +kernel
theorem dX7_begin_14 : decode cX7_begin 14 = .ok (.iconst 0, 1) := by decide +kernel
theorem dX7_begin_15 : decode cX7_begin 15 = .ok (.putfield 18, 3) := by decide +kernel
theorem dX7_begin_18 : decode cX7_begin 18 = .ok (.iconst 0, 1) := by decide +kernel
theorem dX7_begin_19 : decode cX7_begin 19 = .ok (.istore_n 2, 1) := by decide +kernel
theorem dX7_begin_20 : decode cX7_begin 20 = .ok (.iload_n 2, 1) := by decide +kernel
theorem dX7_begin_21 : decode cX7_begin 21 = .ok (.bipush 6, 2) := by decide +kernel
theorem dX7_begin_23 : decode cX7_begin 23 = .ok (.if_icmp .ge 35, 3) := by decide +kernel
theorem dX7_begin_26 : decode cX7_begin 26 = .ok (.aload_n 0, 1) := by decide +kernel
theorem dX7_begin_27 : decode cX7_begin 27 = .ok (.getfield 21, 3) := by decide +kernel
theorem dX7_begin_30 : decode cX7_begin 30 = .ok (.iload_n 2, 1) := by decide +kernel
theorem dX7_begin_31 : decode cX7_begin 31 = .ok (.iload_n 2, 1) := by decide +kernel
theorem dX7_begin_32 : decode cX7_begin 32 = .ok (.iastore, 1) := by decide +kernel
theorem dX7_begin_33 : decode cX7_begin 33 = .ok (.aload_n 0, 1) := by decide +kernel
theorem dX7_begin_34 : decode cX7_begin 34 = .ok (.getfield 25, 3) := by decide +kernel
theorem dX7_begin_37 : decode cX7_begin 37 = .ok (.iload_n 2, 1) := by decide +kernel
theorem dX7_begin_38 : decode cX7_begin 38 = .ok (.iconst 5, 1) := by decide +kernel
theorem dX7_begin_39 : decode cX7_begin 39 = .ok (.iastore, 1) := by decide +kernel
theorem dX7_begin_40 : decode cX7_begin 40 = .ok (.aload_n 0, 1) := by decide +kernel
theorem dX7_begin_41 : decode cX7_begin 41 = .ok (.getfield 28, 3) := by decide +kernel
theorem dX7_begin_44 : decode cX7_begin 44 = .ok (.iload_n 2, 1) := by decide +kernel
theorem dX7_begin_45 : decode cX7_begin 45 = .ok (.aload_n 1, 1) := by decide +kernel
theorem dX7_begin_46 : decode cX7_begin 46 = .ok (.getfield 39, 3) := by decide +kernel
theorem dX7_begin_49 : decode cX7_begin 49 = .ok (.iload_n 2, 1) := by decide +kernel
theorem dX7_begin_50 : decode cX7_begin 50 = .ok (.iaload, 1) := by decide +kernel
theorem dX7_begin_51 : decode cX7_begin 51 = .ok (.iastore, 1) := by decide +kernel
theorem dX7_begin_52 : decode cX7_begin 52 = .ok (.iinc 2 1, 3) := by decide +kernel
theorem dX7_begin_55 : decode cX7_begin 55 = .ok (.goto (-35), 3) := by decide +kernel
theorem dX7_begin_58 : decode cX7_begin 58 = .ok (.return_, 1) := by decide +kernel
theorem dX7_take_0 : decode cX7_take 0 = .ok (.aload_n 0, 1) := by decide +kernel
theorem dX7_take_1 : decode cX7_take 1 = .ok (.aload_n 1, 1) := by decide +kernel
theorem dX7_take_2 : decode cX7_take 2 = .ok (.getfield 9, 3) := by decide +kernel
theorem dX7_take_5 : decode cX7_take 5 = .ok (.putfield 9, 3) := by decide +kernel
theorem dX7_take_8 : decode cX7_take 8 = .ok (.aload_n 0, 1) := by decide +kernel
theorem dX7_take_9 : decode cX7_take 9 = .ok (.aload_n 1, 1) := by decide +kernel
theorem dX7_take_10 : decode cX7_take 10 = .ok (.getfield 15, 3) := by decide +kernel
theorem dX7_take_13 : decode cX7_take 13 = .ok (.putfield 15, 3) := by decide +kernel
theorem dX7_take_16 : decode cX7_take 16 = .ok (.aload_n 0, 1) := by decide +kernel
theorem dX7_take_17 : decode cX7_take 17 = .ok (.aload_n 1, 1) := by decide +kernel
theorem dX7_take_18 : decode cX7_take 18 = .ok (.getfield 18, 3) := by decide +kernel
theorem dX7_take_21 : decode cX7_take 21 = .ok (.putfield 18, 3) := by decide +kernel
theorem dX7_take_24 : decode cX7_take 24 = .ok (.aload_n 1, 1) := by decide +kernel
theorem dX7_take_25 : decode cX7_take 25 = .ok (.getfield 21, 3) := by decide +kernel
theorem dX7_take_28 : decode cX7_take 28 = .ok (.iconst 0, 1) := by decide +kernel
theorem dX7_take_29 : decode cX7_take 29 = .ok (.aload_n 0, 1) := by decide +kernel
theorem dX7_take_30 : decode cX7_take 30 = .ok (.getfield 21, 3) := by decide +kernel
theorem dX7_take_33 : decode cX7_take 33 = .ok (.iconst 0, 1) := by decide +kernel
theorem dX7_take_34 : decode cX7_take 34 = .ok (.aload_n 0, 1) := by decide +kernel
theorem dX7_take_35 : decode cX7_take 35 = .ok (.getfield 21, 3) := by decide +kernel
theorem dX7_take_38 : decode cX7_take 38 = .ok (.arraylength, 1) := by decide +kernel
theorem dX7_take_39 : decode cX7_take 39 = .ok (.invokestatic 42, 3) := by decide +kernel
theorem dX7_take_42 : decode cX7_take 42 = .ok (.aload_n 1, 1) := by decide +kernel
theorem dX7_take_43 : decode cX7_take 43 = .ok (.getfield 25, 3) := by decide +kernel
theorem dX7_take_46 : decode cX7_take 46 = .ok (.iconst 0, 1) := by decide +kernel
theorem dX7_take_47 : decode cX7_take 47 = .ok (.aload_n 0, 1) := by decide +kernel
theorem dX7_take_48 : decode cX7_take 48 = .ok (.getfield 25, 3) := by decide +kernel
theorem dX7_take_51 : decode cX7_take 51 = .ok (.iconst 0, 1) := by decide +kernel
theorem dX7_take_52 : decode cX7_take 52 = .ok (.aload_n 0, 1) := by decide +kernel
theorem dX7_take_53 : decode cX7_take 53 = .ok (.getfield 25, 3) := by decide +kernel
theorem dX7_take_56 : decode cX7_take 56 = .ok (.arraylength, 1) := by decide +kernel
theorem dX7_take_57 : decode cX7_take 57 = .ok (.invokestatic 42, 3) := by decide +kernel
theorem dX7_take_60 : decode cX7_take 60 = .ok (.aload_n 1, 1) := by decide +kernel
theorem dX7_take_61 : decode cX7_take 61 = .ok (.getfield 28, 3) := by decide +kernel
theorem dX7_take_64 : decode cX7_take 64 = .ok (.iconst 0, 1) := by decide +kernel
theorem dX7_take_65 : decode cX7_take 65 = .ok (.aload_n 0, 1) := by decide +kernel
theorem dX7_take_66 : decode cX7_take 66 = .ok (.getfield 28, 3) := by decide +kernel
theorem dX7_take_69 : decode cX7_take 69 = .ok (.iconst 0, 1) := by decide +kernel
theorem dX7_take_70 : decode cX7_take 70 = .ok (.aload_n 0, 1) := by decide +kernel
theorem dX7_take_71 : decode cX7_take 71 = .ok (.getfield 28, 3) := by decide +kernel
theorem dX7_take_74 : decode cX7_take 74 = .ok (.arraylength, 1) := by decide +kernel
theorem dX7_take_75 : decode cX7_take 75 = .ok (.invokestatic 42, 3) := by decide +kernel
theorem dX7_take_78 : decode cX7_take 78 = .ok (.aload_n 1, 1) := by decide +kernel
theorem dX7_take_79 : decode cX7_take 79 = .ok (.getfield 31, 3) := by decide +kernel
theorem dX7_take_82 : decode cX7_take 82 = .ok (.iconst 0, 1) := by decide +kernel
theorem dX7_take_83 : decode cX7_take 83 = .ok (.aload_n 0, 1) := by decide +kernel
theorem dX7_take_84 : decode cX7_take 84 = .ok (.getfield 31, 3) := by decide +kernel
theorem dX7_take_87 : decode cX7_take 87 = .ok (.iconst 0, 1) := by decide +kernel
theorem dX7_take_88 : decode cX7_take 88 = .ok (.aload_n 0, 1) := by decide +kernel
theorem dX7_take_89 : decode cX7_take 89 = .ok (.getfield 31, 3) := by decide +kernel
theorem dX7_take_92 : decode cX7_take 92 = .ok (.arraylength, 1) := by decide +kernel
theorem dX7_take_93 : decode cX7_take 93 = .ok (.invokestatic 42, 3) := by decide +kernel
theorem dX7_take_96 : decode cX7_take 96 = .ok (.return_, 1) := by decide +kernel
theorem dX7_wornBy_0 : decode cX7_wornBy 0 = .ok (.iconst 0, 1) := by decide +kernel
theorem dX7_wornBy_1 : decode cX7_wornBy 1 = .ok (.istore_n 3, 1) := by decide +kernel
theorem dX7_wornBy_2 : decode cX7_wornBy 2 = .ok (.iconst 0, 1) := by decide +kernel
theorem dX7_wornBy_3 : decode cX7_wornBy 3 = .ok (.istore 4, 2) := by decide +kernel
theorem dX7_wornBy_5 : decode cX7_wornBy 5 = .ok (.iload 4, 2) := by decide +kernel
theorem dX7_wornBy_7 : decode cX7_wornBy 7 = .ok (.iload_n 1, 1) := by decide +kernel
theorem dX7_wornBy_8 : decode cX7_wornBy 8 = .ok (.if_icmp .ge 38, 3) := by decide +kernel
theorem dX7_wornBy_11 : decode cX7_wornBy 11 = .ok (.iload 4, 2) := by decide +kernel
theorem dX7_wornBy_13 : decode cX7_wornBy 13 = .ok (.aload_n 0, 1) := by decide +kernel
theorem dX7_wornBy_14 : decode cX7_wornBy 14 = .ok (.getfield 28, 3) := by decide +kernel
theorem dX7_wornBy_17 : decode cX7_wornBy 17 = .ok (.arraylength, 1) := by decide +kernel
theorem dX7_wornBy_18 : decode cX7_wornBy 18 = .ok (.if_icmp .ge 28, 3) := by decide +kernel
theorem dX7_wornBy_21 : decode cX7_wornBy 21 = .ok (.iload_n 3, 1) := by decide +kernel
theorem dX7_wornBy_22 : decode cX7_wornBy 22 = .ok (.aload_n 0, 1) := by decide +kernel
theorem dX7_wornBy_23 : decode cX7_wornBy 23 = .ok (.getfield 28, 3) := by decide +kernel
theorem dX7_wornBy_26 : decode cX7_wornBy 26 = .ok (.iload 4, 2) := by decide +kernel
theorem dX7_wornBy_28 : decode cX7_wornBy 28 = .ok (.iaload, 1) := by decide +kernel
theorem dX7_wornBy_29 : decode cX7_wornBy 29 = .ok (.iload_n 2, 1) := by decide +kernel
theorem dX7_wornBy_30 : decode cX7_wornBy 30 = .ok (.if_icmp .ne 7, 3) := by decide +kernel
theorem dX7_wornBy_33 : decode cX7_wornBy 33 = .ok (.iconst 1, 1) := by decide +kernel
theorem dX7_wornBy_34 : decode cX7_wornBy 34 = .ok (.goto 4, 3) := by decide +kernel
theorem dX7_wornBy_37 : decode cX7_wornBy 37 = .ok (.iconst 0, 1) := by decide +kernel
theorem dX7_wornBy_38 : decode cX7_wornBy 38 = .ok (.iadd, 1) := by decide +kernel
theorem dX7_wornBy_39 : decode cX7_wornBy 39 = .ok (.istore_n 3, 1) := by decide +kernel
theorem dX7_wornBy_40 : decode cX7_wornBy 40 = .ok (.iinc 4 1, 3) := by decide +kernel
theorem dX7_wornBy_43 : decode cX7_wornBy 43 = .ok (.goto (-38), 3) := by decide +kernel
theorem dX7_wornBy_46 : decode cX7_wornBy 46 = .ok (.iload_n 3, 1) := by decide +kernel
theorem dX7_wornBy_47 : decode cX7_wornBy 47 = .ok (.ireturn, 1) := by decide +kernel
theorem dX7_placeOf_0 : decode cX7_placeOf 0 = .ok (.iconst 0, 1) := by decide +kernel
theorem dX7_placeOf_1 : decode cX7_placeOf 1 = .ok (.istore_n 3, 1) := by decide +kernel
theorem dX7_placeOf_2 : decode cX7_placeOf 2 = .ok (.iload_n 3, 1) := by decide +kernel
theorem dX7_placeOf_3 : decode cX7_placeOf 3 = .ok (.iload_n 2, 1) := by decide +kernel
theorem dX7_placeOf_4 : decode cX7_placeOf 4 = .ok (.if_icmp .ge 30, 3) := by decide +kernel
theorem dX7_placeOf_7 : decode cX7_placeOf 7 = .ok (.iload_n 3, 1) := by decide +kernel
theorem dX7_placeOf_8 : decode cX7_placeOf 8 = .ok (.aload_n 0, 1) := by decide +kernel
theorem dX7_placeOf_9 : decode cX7_placeOf 9 = .ok (.getfield 21, 3) := by decide +kernel
theorem dX7_placeOf_12 : decode cX7_placeOf 12 = .ok (.arraylength, 1) := by decide +kernel
theorem dX7_placeOf_13 : decode cX7_placeOf 13 = .ok (.if_icmp .ge 21, 3) := by decide +kernel
theorem dX7_placeOf_16 : decode cX7_placeOf 16 = .ok (.aload_n 0, 1) := by decide +kernel
theorem dX7_placeOf_17 : decode cX7_placeOf 17 = .ok (.getfield 21, 3) := by decide +kernel
theorem dX7_placeOf_20 : decode cX7_placeOf 20 = .ok (.iload_n 3, 1) := by decide +kernel
theorem dX7_placeOf_21 : decode cX7_placeOf 21 = .ok (.iaload, 1) := by decide +kernel
theorem dX7_placeOf_22 : decode cX7_placeOf 22 = .ok (.iload_n 1, 1) := by decide +kernel
theorem dX7_placeOf_23 : decode cX7_placeOf 23 = .ok (.if_icmp .ne 5, 3) := by decide +kernel
theorem dX7_placeOf_26 : decode cX7_placeOf 26 = .ok (.iload_n 3, 1) := by decide +kernel
theorem dX7_placeOf_27 : decode cX7_placeOf 27 = .ok (.ireturn, 1) := by decide +kernel
theorem dX7_placeOf_28 : decode cX7_placeOf 28 = .ok (.iinc 3 1, 3) := by decide +kernel
theorem dX7_placeOf_31 : decode cX7_placeOf 31 = .ok (.goto (-29), 3) := by decide +kernel
theorem dX7_placeOf_34 : decode cX7_placeOf 34 = .ok (.iconst (-1), 1) := by decide +kernel
theorem dX7_placeOf_35 : decode cX7_placeOf 35 = .ok (.ireturn, 1) := by decide +kernel
theorem dX7_keep_0 : decode cX7_keep 0 = .ok (.aload_n 0, 1) := by decide +kernel
theorem dX7_keep_1 : decode cX7_keep 1 = .ok (.getfield 18, 3) := by decide +kernel
theorem dX7_keep_4 : decode cX7_keep 4 = .ok (.bipush 40, 2) := by decide +kernel
theorem dX7_keep_6 : decode cX7_keep 6 = .ok (.if_icmp .lt 29, 3) := by decide +kernel
theorem dX7_keep_9 : decode cX7_keep 9 = .ok (.aload_n 0, 1) := by decide +kernel
theorem dX7_keep_10 : decode cX7_keep 10 = .ok (.getfield 31, 3) := by decide +kernel
theorem dX7_keep_13 : decode cX7_keep 13 = .ok (.iconst 3, 1) := by decide +kernel
theorem dX7_keep_14 : decode cX7_keep 14 = .ok (.aload_n 0, 1) := by decide +kernel
theorem dX7_keep_15 : decode cX7_keep 15 = .ok (.getfield 31, 3) := by decide +kernel
theorem dX7_keep_18 : decode cX7_keep 18 = .ok (.iconst 0, 1) := by decide +kernel
theorem dX7_keep_19 : decode cX7_keep 19 = .ok (.aload_n 0, 1) := by decide +kernel
theorem dX7_keep_20 : decode cX7_keep 20 = .ok (.getfield 31, 3) := by decide +kernel
theorem dX7_keep_23 : decode cX7_keep 23 = .ok (.arraylength, 1) := by decide +kernel
theorem dX7_keep_24 : decode cX7_keep 24 = .ok (.iconst 3, 1) := by decide +kernel
theorem dX7_keep_25 : decode cX7_keep 25 = .ok (.isub, 1) := by decide +kernel
theorem dX7_keep_26 : decode cX7_keep 26 = .ok (.invokestatic 42, 3) := by decide +kernel
theorem dX7_keep_29 : decode cX7_keep 29 = .ok (.aload_n 0, 1) := by decide +kernel
theorem dX7_keep_30 : decode cX7_keep 30 = .ok (.bipush 39, 2) := by decide +kernel
theorem dX7_keep_32 : decode cX7_keep 32 = .ok (.putfield 18, 3) := by decide +kernel
theorem dX7_keep_35 : decode cX7_keep 35 = .ok (.aload_n 0, 1) := by decide +kernel
theorem dX7_keep_36 : decode cX7_keep 36 = .ok (.getfield 31, 3) := by decide +kernel
theorem dX7_keep_39 : decode cX7_keep 39 = .ok (.iconst 3, 1) := by decide +kernel
theorem dX7_keep_40 : decode cX7_keep 40 = .ok (.aload_n 0, 1) := by decide +kernel
theorem dX7_keep_41 : decode cX7_keep 41 = .ok (.getfield 18, 3) := by decide +kernel
theorem dX7_keep_44 : decode cX7_keep 44 = .ok (.imul, 1) := by decide +kernel
theorem dX7_keep_45 : decode cX7_keep 45 = .ok (.aload_n 0, 1) := by decide +kernel
theorem dX7_keep_46 : decode cX7_keep 46 = .ok (.getfield 9, 3) := by decide +kernel
theorem dX7_keep_49 : decode cX7_keep 49 = .ok (.iastore, 1) := by decide +kernel
theorem dX7_keep_50 : decode cX7_keep 50 = .ok (.aload_n 0, 1) := by decide +kernel
theorem dX7_keep_51 : decode cX7_keep 51 = .ok (.getfield 31, 3) := by decide +kernel
theorem dX7_keep_54 : decode cX7_keep 54 = .ok (.iconst 3, 1) := by decide +kernel
theorem dX7_keep_55 : decode cX7_keep 55 = .ok (.aload_n 0, 1) := by decide +kernel
theorem dX7_keep_56 : decode cX7_keep 56 = .ok (.getfield 18, 3) := by decide +kernel
theorem dX7_keep_59 : decode cX7_keep 59 = .ok (.imul, 1) := by decide +kernel
theorem dX7_keep_60 : decode cX7_keep 60 = .ok (.iconst 1, 1) := by decide +kernel
theorem dX7_keep_61 : decode cX7_keep 61 = .ok (.iadd, 1) := by decide +kernel
theorem dX7_keep_62 : decode cX7_keep 62 = .ok (.iload_n 1, 1) := by decide +kernel
theorem dX7_keep_63 : decode cX7_keep 63 = .ok (.iastore, 1) := by decide +kernel
theorem dX7_keep_64 : decode cX7_keep 64 = .ok (.aload_n 0, 1) := by decide +kernel
theorem dX7_keep_65 : decode cX7_keep 65 = .ok (.getfield 31, 3) := by decide +kernel
theorem dX7_keep_68 : decode cX7_keep 68 = .ok (.iconst 3, 1) := by decide +kernel
theorem dX7_keep_69 : decode cX7_keep 69 = .ok (.aload_n 0, 1) := by decide +kernel
theorem dX7_keep_70 : decode cX7_keep 70 = .ok (.getfield 18, 3) := by decide +kernel
theorem dX7_keep_73 : decode cX7_keep 73 = .ok (.imul, 1) := by decide +kernel
theorem dX7_keep_74 : decode cX7_keep 74 = .ok (.iconst 2, 1) := by decide +kernel
theorem dX7_keep_75 : decode cX7_keep 75 = .ok (.iadd, 1) := by decide +kernel
theorem dX7_keep_76 : decode cX7_keep 76 = .ok (.iload_n 2, 1) := by decide +kernel
theorem dX7_keep_77 : decode cX7_keep 77 = .ok (.iastore, 1) := by decide +kernel
theorem dX7_keep_78 : decode cX7_keep 78 = .ok (.aload_n 0, 1) := by decide +kernel
theorem dX7_keep_79 : decode cX7_keep 79 = .ok (.dup, 1) := by decide +kernel
theorem dX7_keep_80 : decode cX7_keep 80 = .ok (.getfield 18, 3) := by decide +kernel
theorem dX7_keep_83 : decode cX7_keep 83 = .ok (.iconst 1, 1) := by decide +kernel
theorem dX7_keep_84 : decode cX7_keep 84 = .ok (.iadd, 1) := by decide +kernel
theorem dX7_keep_85 : decode cX7_keep 85 = .ok (.putfield 18, 3) := by decide +kernel
theorem dX7_keep_88 : decode cX7_keep 88 = .ok (.return_, 1) := by decide +kernel
theorem dX7_keptOf_0 : decode cX7_keptOf 0 = .ok (.iload_n 1, 1) := by decide +kernel
theorem dX7_keptOf_1 : decode cX7_keptOf 1 = .ok (.ifCond .lt 20, 3) := by decide +kernel
theorem dX7_keptOf_4 : decode cX7_keptOf 4 = .ok (.iload_n 1, 1) := by decide +kernel
theorem dX7_keptOf_5 : decode cX7_keptOf 5 = .ok (.aload_n 0, 1) := by decide +kernel
theorem dX7_keptOf_6 : decode cX7_keptOf 6 = .ok (.getfield 18, 3) := by decide +kernel
theorem dX7_keptOf_9 : decode cX7_keptOf 9 = .ok (.if_icmp .ge 12, 3) := by decide +kernel
theorem dX7_keptOf_12 : decode cX7_keptOf 12 = .ok (.iload_n 2, 1) := by decide +kernel
theorem dX7_keptOf_13 : decode cX7_keptOf 13 = .ok (.ifCond .lt 8, 3) := by decide +kernel
theorem dX7_keptOf_16 : decode cX7_keptOf 16 = .ok (.iload_n 2, 1) := by decide +kernel
theorem dX7_keptOf_17 : decode cX7_keptOf 17 = .ok (.iconst 2, 1) := by decide +kernel
theorem dX7_keptOf_18 : decode cX7_keptOf 18 = .ok (.if_icmp .le 5, 3) := by decide +kernel
theorem dX7_keptOf_21 : decode cX7_keptOf 21 = .ok (.iconst (-1), 1) := by decide +kernel
theorem dX7_keptOf_22 : decode cX7_keptOf 22 = .ok (.ireturn, 1) := by decide +kernel
theorem dX7_keptOf_23 : decode cX7_keptOf 23 = .ok (.aload_n 0, 1) := by decide +kernel
theorem dX7_keptOf_24 : decode cX7_keptOf 24 = .ok (.getfield 31, 3) := by decide +kernel
theorem dX7_keptOf_27 : decode cX7_keptOf 27 = .ok (.iconst 3, 1) := by decide +kernel
theorem dX7_keptOf_28 : decode cX7_keptOf 28 = .ok (.iload_n 1, 1) := by decide +kernel
theorem dX7_keptOf_29 : decode cX7_keptOf 29 = .ok (.imul, 1) := by decide +kernel
theorem dX7_keptOf_30 : decode cX7_keptOf 30 = .ok (.iload_n 2, 1) := by decide +kernel
theorem dX7_keptOf_31 : decode cX7_keptOf 31 = .ok (.iadd, 1) := by decide +kernel
theorem dX7_keptOf_32 : decode cX7_keptOf 32 = .ok (.iaload, 1) := by decide +kernel
theorem dX7_keptOf_33 : decode cX7_keptOf 33 = .ok (.ireturn, 1) := by decide +kernel
theorem dX8_init_0 : decode cX8_init 0 = .ok (.aload_n 0, 1) := by decide +kernel
theorem dX8_init_1 : decode cX8_init 1 = .ok (.invokespecial 1, 3) := by decide +kernel
theorem dX8_init_4 : decode cX8_init 4 = .ok (.aload_n 0, 1) := by decide +kernel
theorem dX8_init_5 : decode cX8_init 5 = .ok (.bipush 9, 2) := by decide +kernel
theorem dX8_init_7 : decode cX8_init 7 = .ok (.newarray .int, 2) := by decide +kernel
theorem dX8_init_9 : decode cX8_init 9 = .ok (.putfield 7, 3) := by decide +kernel
theorem dX8_init_12 : decode cX8_init 12 = .ok (.aload_n 0, 1) := by decide +kernel
theorem dX8_init_13 : decode cX8_init 13 = .ok (.bipush 96, 2) := by decide +kernel
theorem dX8_init_15 : decode cX8_init 15 = .ok (.newarray .long, 2) := by decide +kernel
theorem dX8_init_17 : decode cX8_init 17 = .ok (.putfield 13, 3) := by decide +kernel
theorem dX8_init_20 : decode cX8_init 20 = .ok (.return_, 1) := by decide +kernel
theorem dX8_put_0 : decode cX8_put 0 = .ok (.iconst (-1), 1) := by decide +kernel
theorem dX8_put_1 : decode cX8_put 1 = .ok (.iload_n 1, 1) := by decide +kernel
theorem dX8_put_2 : decode cX8_put 2 = .ok (.isub, 1) := by decide +kernel
theorem dX8_put_3 : decode cX8_put 3 = .ok (.istore_n 3, 1) := by decide +kernel
theorem dX8_put_4 : decode cX8_put 4 = .ok (.iload_n 3, 1) := by decide +kernel
theorem dX8_put_5 : decode cX8_put 5 = .ok (.ifCond .lt 19, 3) := by decide +kernel
theorem dX8_put_8 : decode cX8_put 8 = .ok (.iload_n 3, 1) := by decide +kernel
theorem dX8_put_9 : decode cX8_put 9 = .ok (.aload_n 0, 1) := by decide +kernel
theorem dX8_put_10 : decode cX8_put 10 = .ok (.getfield 7, 3) := by decide +kernel
theorem dX8_put_13 : decode cX8_put 13 = .ok (.arraylength, 1) := by decide +kernel
theorem dX8_put_14 : decode cX8_put 14 = .ok (.if_icmp .ge 10, 3) := by decide +kernel
theorem dX8_put_17 : decode cX8_put 17 = .ok (.aload_n 0, 1) := by decide +kernel
theorem dX8_put_18 : decode cX8_put 18 = .ok (.getfield 7, 3) := by decide +kernel
theorem dX8_put_21 : decode cX8_put 21 = .ok (.iload_n 3, 1) := by decide +kernel
theorem dX8_put_22 : decode cX8_put 22 = .ok (.iload_n 2, 1) := by decide +kernel
theorem dX8_put_23 : decode cX8_put 23 = .ok (.iastore, 1) := by decide +kernel
theorem dX8_put_24 : decode cX8_put 24 = .ok (.return_, 1) := by decide +kernel
theorem dX8_workOut_0 : decode cX8_workOut 0 = .ok (.aload_n 1, 1) := by decide +kernel
theorem dX8_workOut_1 : decode cX8_workOut 1 = .ok (.iload_n 2, 1) := by decide +kernel
theorem dX8_workOut_2 : decode cX8_workOut 2 = .ok (.invokevirtual 17, 3) := by decide +kernel
theorem dX8_workOut_5 : decode cX8_workOut 5 = .ok (.ifCond .ne 5, 3) := by decide +kernel
theorem dX8_workOut_8 : decode cX8_workOut 8 = .ok (.iconst 0, 1) := by decide +kernel
theorem dX8_workOut_9 : decode cX8_workOut 9 = .ok (.ireturn, 1) := by decide +kernel
theorem dX8_workOut_10 : decode cX8_workOut 10 = .ok (.iconst 0, 1) := by decide +kernel
theorem dX8_workOut_11 : decode cX8_workOut 11 = .ok (.istore_n 3, 1) := by decide +kernel
theorem dX8_workOut_12 : decode cX8_workOut 12 = .ok (.aload_n 1, 1) := by decide +kernel
theorem dX8_workOut_13 : decode cX8_workOut 13 = .ok (.getfield 23, 3) := by decide +kernel
theorem dX8_workOut_16 : decode cX8_workOut 16 = .ok (.iload_n 2, 1) := by decide +kernel
theorem dX8_workOut_17 : decode cX8_workOut 17 = .ok (.iaload, 1) := by decide +kernel
theorem dX8_workOut_18 : decode cX8_workOut 18 = .ok (.aload_n 1, 1) := by decide +kernel
theorem dX8_workOut_19 : decode cX8_workOut 19 = .ok (.getfield 26, 3) := by decide +kernel
theorem dX8_workOut_22 : decode cX8_workOut 22 = .ok (.arraylength, 1) := by decide +kernel
theorem dX8_workOut_23 : decode cX8_workOut 23 = .ok (.if_icmp .ge 12, 3) := by decide +kernel
theorem dX8_workOut_26 : decode cX8_workOut 26 = .ok (.aload_n 1, 1) := by decide +kernel
theorem dX8_workOut_27 : decode cX8_workOut 27 = .ok (.getfield 23, 3) := by decide +kernel
theorem dX8_workOut_30 : decode cX8_workOut 30 = .ok (.iload_n 2, 1) := by decide +kernel
theorem dX8_workOut_31 : decode cX8_workOut 31 = .ok (.iaload, 1) := by decide +kernel
theorem dX8_workOut_32 : decode cX8_workOut 32 = .ok (.goto 8, 3) := by decide +kernel
theorem dX8_workOut_35 : decode cX8_workOut 35 = .ok (.aload_n 1, 1) := by decide +kernel
theorem dX8_workOut_36 : decode cX8_workOut 36 = .ok (.getfield 26, 3) := by decide +kernel
theorem dX8_workOut_39 : decode cX8_workOut 39 = .ok (.arraylength, 1) := by decide +kernel
theorem dX8_workOut_40 : decode cX8_workOut 40 = .ok (.istore 4, 2) := by decide +kernel
theorem dX8_workOut_42 : decode cX8_workOut 42 = .ok (.aload_n 1, 1) := by decide +kernel
theorem dX8_workOut_43 : decode cX8_workOut 43 = .ok (.getfield 29, 3) := by decide +kernel
theorem dX8_workOut_46 : decode cX8_workOut 46 = .ok (.iload_n 2, 1) := by decide +kernel
theorem dX8_workOut_47 : decode cX8_workOut 47 = .ok (.iaload, 1) := by decide +kernel
theorem dX8_workOut_48 : decode cX8_workOut 48 = .ok (.istore 5, 2) := by decide +kernel
theorem dX8_workOut_50 : decode cX8_workOut 50 = .ok (.iload 5, 2) := by decide +kernel
theorem dX8_workOut_52 : decode cX8_workOut 52 = .ok (.iload 4, 2) := by decide +kernel
theorem dX8_workOut_54 : decode cX8_workOut 54 = .ok (.if_icmp .ge 203, 3) := by decide +kernel
theorem dX8_workOut_57 : decode cX8_workOut 57 = .ok (.aload_n 1, 1) := by decide +kernel
theorem dX8_workOut_58 : decode cX8_workOut 58 = .ok (.getfield 26, 3) := by decide +kernel
theorem dX8_workOut_61 : decode cX8_workOut 61 = .ok (.iload 5, 2) := by decide +kernel
theorem dX8_workOut_63 : decode cX8_workOut 63 = .ok (.iaload, 1) := by decide +kernel
theorem dX8_workOut_64 : decode cX8_workOut 64 = .ok (.istore 6, 2) := by decide +kernel
theorem dX8_workOut_66 : decode cX8_workOut 66 = .ok (.iload 6, 2) := by decide +kernel
theorem dX8_workOut_68 : decode cX8_workOut 68 = .ok (.bipush (-9), 2) := by decide +kernel
theorem dX8_workOut_70 : decode cX8_workOut 70 = .ok (.if_icmp .lt 47, 3) := by decide +kernel
theorem dX8_workOut_73 : decode cX8_workOut 73 = .ok (.iload_n 3, 1) := by decide +kernel
theorem dX8_workOut_74 : decode cX8_workOut 74 = .ok (.aload_n 0, 1) := by decide +kernel
theorem dX8_workOut_75 : decode cX8_workOut 75 = .ok (.getfield 13, 3) := by decide +kernel
theorem dX8_workOut_78 : decode cX8_workOut 78 = .ok (.arraylength, 1) := by decide +kernel
theorem dX8_workOut_79 : decode cX8_workOut 79 = .ok (.if_icmp .lt 5, 3) := by decide +kernel
theorem dX8_workOut_82 : decode cX8_workOut 82 = .ok (.iconst 0, 1) := by decide +kernel
theorem dX8_workOut_83 : decode cX8_workOut 83 = .ok (.ireturn, 1) := by decide +kernel
theorem dX8_workOut_84 : decode cX8_workOut 84 = .ok (.aload_n 0, 1) := by decide +kernel
theorem dX8_workOut_85 : decode cX8_workOut 85 = .ok (.getfield 13, 3) := by decide +kernel
theorem dX8_workOut_88 : decode cX8_workOut 88 = .ok (.iload_n 3, 1) := by decide +kernel
theorem dX8_workOut_89 : decode cX8_workOut 89 = .ok (.iload 6, 2) := by decide +kernel
theorem dX8_workOut_91 : decode cX8_workOut 91 = .ok (.ifCond .lt 9, 3) := by decide +kernel
theorem dX8_workOut_94 : decode cX8_workOut 94 = .ok (.iload 6, 2) := by decide +kernel
theorem dX8_workOut_96 : decode cX8_workOut 96 = .ok (.i2l, 1) := by decide +kernel
theorem dX8_workOut_97 : decode cX8_workOut 97 = .ok (.goto 13, 3) := by decide +kernel
theorem dX8_workOut_100 : decode cX8_workOut 100 = .ok (.aload_n 0, 1) := by decide +kernel
theorem dX8_workOut_101 : decode cX8_workOut 101 = .ok (.getfield 7, 3) := by decide +kernel
theorem dX8_workOut_104 : decode cX8_workOut 104 = .ok (.iconst (-1), 1) := by decide +kernel
theorem dX8_workOut_105 : decode cX8_workOut 105 = .ok (.iload 6, 2) := by decide +kernel
theorem dX8_workOut_107 : decode cX8_workOut 107 = .ok (.isub, 1) := by decide +kernel
theorem dX8_workOut_108 : decode cX8_workOut 108 = .ok (.iaload, 1) := by decide +kernel
theorem dX8_workOut_109 : decode cX8_workOut 109 = .ok (.i2l, 1) := by decide +kernel
theorem dX8_workOut_110 : decode cX8_workOut 110 = .ok (.lastore, 1) := by decide +kernel
theorem dX8_workOut_111 : decode cX8_workOut 111 = .ok (.iinc 3 1, 3) := by decide +kernel
theorem dX8_workOut_114 : decode cX8_workOut 114 = .ok (.goto 137, 3) := by decide +kernel
theorem dX8_workOut_117 : decode cX8_workOut 117 = .ok (.iload 6, 2) := by decide +kernel
theorem dX8_workOut_119 : decode cX8_workOut 119 = .ok (.bipush (-22), 2) := by decide +kernel
theorem dX8_workOut_121 : decode cX8_workOut 121 = .ok (.if_icmp .ne 29, 3) := by decide +kernel
theorem dX8_workOut_124 : decode cX8_workOut 124 = .ok (.iload_n 3, 1) := by decide +kernel
theorem dX8_workOut_125 : decode cX8_workOut 125 = .ok (.iconst 1, 1) := by decide +kernel
theorem dX8_workOut_126 : decode cX8_workOut 126 = .ok (.if_icmp .lt 24, 3) := by decide +kernel
theorem dX8_workOut_129 : decode cX8_workOut 129 = .ok (.aload_n 0, 1) := by decide +kernel
theorem dX8_workOut_130 : decode cX8_workOut 130 = .ok (.getfield 13, 3) := by decide +kernel
theorem dX8_workOut_133 : decode cX8_workOut 133 = .ok (.iload_n 3, 1) := by decide +kernel
theorem dX8_workOut_134 : decode cX8_workOut 134 = .ok (.iconst 1, 1) := by decide +kernel
theorem dX8_workOut_135 : decode cX8_workOut 135 = .ok (.isub, 1) := by decide +kernel
theorem dX8_workOut_136 : decode cX8_workOut 136 = .ok (.lconst 1, 1) := by decide +kernel
theorem dX8_workOut_137 : decode cX8_workOut 137 = .ok (.aload_n 0, 1) := by decide +kernel
theorem dX8_workOut_138 : decode cX8_workOut 138 = .ok (.getfield 13, 3) := by decide +kernel
theorem dX8_workOut_141 : decode cX8_workOut 141 = .ok (.iload_n 3, 1) := by decide +kernel
theorem dX8_workOut_142 : decode cX8_workOut 142 = .ok (.iconst 1, 1) := by decide +kernel
theorem dX8_workOut_143 : decode cX8_workOut 143 = .ok (.isub, 1) := by decide +kernel
theorem dX8_workOut_144 : decode cX8_workOut 144 = .ok (.laload, 1) := by decide +kernel
theorem dX8_workOut_145 : decode cX8_workOut 145 = .ok (.lsub, 1) := by decide +kernel
theorem dX8_workOut_146 : decode cX8_workOut 146 = .ok (.lastore, 1) := by decide +kernel
theorem dX8_workOut_147 : decode cX8_workOut 147 = .ok (.goto 104, 3) := by decide +kernel
theorem dX8_workOut_150 : decode cX8_workOut 150 = .ok (.iload 6, 2) := by decide +kernel
theorem dX8_workOut_152 : decode cX8_workOut 152 = .ok (.bipush (-23), 2) := by decide +kernel
theorem dX8_workOut_154 : decode cX8_workOut 154 = .ok (.if_icmp .ne 52, 3) := by decide +kernel
theorem dX8_workOut_157 : decode cX8_workOut 157 = .ok (.iload_n 3, 1) := by decide +kernel
theorem dX8_workOut_158 : decode cX8_workOut 158 = .ok (.iconst 3, 1) := by decide +kernel
theorem dX8_workOut_159 : decode cX8_workOut 159 = .ok (.if_icmp .lt 47, 3) := by decide +kernel
theorem dX8_workOut_162 : decode cX8_workOut 162 = .ok (.iinc 3 (-2), 3) := by decide +kernel
theorem dX8_workOut_165 : decode cX8_workOut 165 = .ok (.aload_n 0, 1) := by decide +kernel
theorem dX8_workOut_166 : decode cX8_workOut 166 = .ok (.getfield 13, 3) := by decide +kernel
theorem dX8_workOut_169 : decode cX8_workOut 169 = .ok (.iload_n 3, 1) := by decide +kernel
theorem dX8_workOut_170 : decode cX8_workOut 170 = .ok (.iconst 1, 1) := by decide +kernel
theorem dX8_workOut_171 : decode cX8_workOut 171 = .ok (.isub, 1) := by decide +kernel
theorem dX8_workOut_172 : decode cX8_workOut 172 = .ok (.aload_n 0, 1) := by decide +kernel
theorem dX8_workOut_173 : decode cX8_workOut 173 = .ok (.getfield 13, 3) := by decide +kernel
theorem dX8_workOut_176 : decode cX8_workOut 176 = .ok (.iload_n 3, 1) := by decide +kernel
theorem dX8_workOut_177 : decode cX8_workOut 177 = .ok (.iconst 1, 1) := by decide +kernel
theorem dX8_workOut_178 : decode cX8_workOut 178 = .ok (.isub, 1) := by decide +kernel
theorem dX8_workOut_179 : decode cX8_workOut 179 = .ok (.laload, 1) := by decide +kernel
theorem dX8_workOut_180 : decode cX8_workOut 180 = .ok (.lconst 0, 1) := by decide +kernel
theorem dX8_workOut_181 : decode cX8_workOut 181 = .ok (.lcmp, 1) := by decide +kernel
theorem dX8_workOut_182 : decode cX8_workOut 182 = .ok (.ifCond .eq 12, 3) := by decide +kernel
theorem dX8_workOut_185 : decode cX8_workOut 185 = .ok (.aload_n 0, 1) := by decide +kernel
theorem dX8_workOut_186 : decode cX8_workOut 186 = .ok (.getfield 13, 3) := by decide +kernel
theorem dX8_workOut_189 : decode cX8_workOut 189 = .ok (.iload_n 3, 1) := by decide +kernel
theorem dX8_workOut_190 : decode cX8_workOut 190 = .ok (.laload, 1) := by decide +kernel
theorem dX8_workOut_191 : decode cX8_workOut 191 = .ok (.goto 11, 3) := by decide +kernel
theorem dX8_workOut_194 : decode cX8_workOut 194 = .ok (.aload_n 0, 1) := by decide +kernel
theorem dX8_workOut_195 : decode cX8_workOut 195 = .ok (.getfield 13, 3) := by decide +kernel
theorem dX8_workOut_198 : decode cX8_workOut 198 = .ok (.iload_n 3, 1) := by decide +kernel
theorem dX8_workOut_199 : decode cX8_workOut 199 = .ok (.iconst 1, 1) := by decide +kernel
theorem dX8_workOut_200 : decode cX8_workOut 200 = .ok (.iadd, 1) := by decide +kernel
theorem dX8_workOut_201 : decode cX8_workOut 201 = .ok (.laload, 1) := by decide +kernel
theorem dX8_workOut_202 : decode cX8_workOut 202 = .ok (.lastore, 1) := by decide +kernel
theorem dX8_workOut_203 : decode cX8_workOut 203 = .ok (.goto 48, 3) := by decide +kernel
theorem dX8_workOut_206 : decode cX8_workOut 206 = .ok (.iload 6, 2) := by decide +kernel
theorem dX8_workOut_208 : decode cX8_workOut 208 = .ok (.bipush (-22), 2) := by decide +kernel
theorem dX8_workOut_210 : decode cX8_workOut 210 = .ok (.if_icmp .le 41, 3) := by decide +kernel
theorem dX8_workOut_213 : decode cX8_workOut 213 = .ok (.iload_n 3, 1) := by decide +kernel
theorem dX8_workOut_214 : decode cX8_workOut 214 = .ok (.iconst 2, 1) := by decide +kernel
theorem dX8_workOut_215 : decode cX8_workOut 215 = .ok (.if_icmp .lt 36, 3) := by decide +kernel
theorem dX8_workOut_218 : decode cX8_workOut 218 = .ok (.iinc 3 (-1), 3) := by decide +kernel
theorem dX8_workOut_221 : decode cX8_workOut 221 = .ok (.aload_n 0, 1) := by decide +kernel
theorem dX8_workOut_222 : decode cX8_workOut 222 = .ok (.getfield 13, 3) := by decide +kernel
theorem dX8_workOut_225 : decode cX8_workOut 225 = .ok (.iload_n 3, 1) := by decide +kernel
theorem dX8_workOut_226 : decode cX8_workOut 226 = .ok (.iconst 1, 1) := by decide +kernel
theorem dX8_workOut_227 : decode cX8_workOut 227 = .ok (.isub, 1) := by decide +kernel
theorem dX8_workOut_228 : decode cX8_workOut 228 = .ok (.iload 6, 2) := by decide +kernel
theorem dX8_workOut_230 : decode cX8_workOut 230 = .ok (.aload_n 0, 1) := by decide +kernel
theorem dX8_workOut_231 : decode cX8_workOut 231 = .ok (.getfield 13, 3) := by decide +kernel
theorem dX8_workOut_234 : decode cX8_workOut 234 = .ok (.iload_n 3, 1) := by decide +kernel
theorem dX8_workOut_235 : decode cX8_workOut 235 = .ok (.iconst 1, 1) := by decide +kernel
theorem dX8_workOut_236 : decode cX8_workOut 236 = .ok (.isub, 1) := by decide +kernel
theorem dX8_workOut_237 : decode cX8_workOut 237 = .ok (.laload, 1) := by decide +kernel
theorem dX8_workOut_238 : decode cX8_workOut 238 = .ok (.aload_n 0, 1) := by decide +kernel
theorem dX8_workOut_239 : decode cX8_workOut 239 = .ok (.getfield 13, 3) := by decide +kernel
theorem dX8_workOut_242 : decode cX8_workOut 242 = .ok (.iload_n 3, 1) := by decide +kernel
theorem dX8_workOut_243 : decode cX8_workOut 243 = .ok (.laload, 1) := by decide +kernel
theorem dX8_workOut_244 : decode cX8_workOut 244 = .ok (.invokestatic 32, 3) := by decide +kernel
theorem dX8_workOut_247 : decode cX8_workOut 247 = .ok (.invokestatic 36, 3) := by decide +kernel
theorem dX8_workOut_250 : decode cX8_workOut 250 = .ok (.lastore, 1) := by decide +kernel
theorem dX8_workOut_251 : decode cX8_workOut 251 = .ok (.iinc 5 1, 3) := by decide +kernel
theorem dX8_workOut_254 : decode cX8_workOut 254 = .ok (.goto (-204), 3) := by decide +kernel
theorem dX8_workOut_257 : decode cX8_workOut 257 = .ok (.iload_n 3, 1) := by decide +kernel
theorem dX8_workOut_258 : decode cX8_workOut 258 = .ok (.iconst 1, 1) := by decide +kernel
theorem dX8_workOut_259 : decode cX8_workOut 259 = .ok (.if_icmp .lt 13, 3) := by decide +kernel
theorem dX8_workOut_262 : decode cX8_workOut 262 = .ok (.aload_n 0, 1) := by decide +kernel
theorem dX8_workOut_263 : decode cX8_workOut 263 = .ok (.getfield 13, 3) := by decide +kernel
theorem dX8_workOut_266 : decode cX8_workOut 266 = .ok (.iconst 0, 1) := by decide +kernel
theorem dX8_workOut_267 : decode cX8_workOut 267 = .ok (.laload, 1) := by decide +kernel
theorem dX8_workOut_268 : decode cX8_workOut 268 = .ok (.l2i, 1) := by decide +kernel
theorem dX8_workOut_269 : decode cX8_workOut 269 = .ok (.goto 4, 3) := by decide +kernel
theorem dX8_workOut_272 : decode cX8_workOut 272 = .ok (.iconst 0, 1) := by decide +kernel
theorem dX8_workOut_273 : decode cX8_workOut 273 = .ok (.ireturn, 1) := by decide +kernel
theorem dX8_join_0 : decode cX8_join 0 = .ok (.iload_n 0, 1) := by decide +kernel
theorem dX8_join_1 : decode cX8_join 1 = .ok (.tableswitch 183 (-21) (-10) #[179, 175, 163, 151, 139, 127, 115, 97, 75, 71, 67, 63], 63) := by decide +kernel
theorem dX8_join_64 : decode cX8_join 64 = .ok (.lload_n 1, 1) := by decide +kernel
theorem dX8_join_65 : decode cX8_join 65 = .ok (.lload_n 3, 1) := by decide +kernel
theorem dX8_join_66 : decode cX8_join 66 = .ok (.ladd, 1) := by decide +kernel
theorem dX8_join_67 : decode cX8_join 67 = .ok (.lreturn, 1) := by decide +kernel
theorem dX8_join_68 : decode cX8_join 68 = .ok (.lload_n 1, 1) := by decide +kernel
theorem dX8_join_69 : decode cX8_join 69 = .ok (.lload_n 3, 1) := by decide +kernel
theorem dX8_join_70 : decode cX8_join 70 = .ok (.lsub, 1) := by decide +kernel
theorem dX8_join_71 : decode cX8_join 71 = .ok (.lreturn, 1) := by decide +kernel
theorem dX8_join_72 : decode cX8_join 72 = .ok (.lload_n 1, 1) := by decide +kernel
theorem dX8_join_73 : decode cX8_join 73 = .ok (.lload_n 3, 1) := by decide +kernel
theorem dX8_join_74 : decode cX8_join 74 = .ok (.lmul, 1) := by decide +kernel
theorem dX8_join_75 : decode cX8_join 75 = .ok (.lreturn, 1) := by decide +kernel
theorem dX8_join_76 : decode cX8_join 76 = .ok (.lload_n 3, 1) := by decide +kernel
theorem dX8_join_77 : decode cX8_join 77 = .ok (.lconst 0, 1) := by decide +kernel
theorem dX8_join_78 : decode cX8_join 78 = .ok (.lcmp, 1) := by decide +kernel
theorem dX8_join_79 : decode cX8_join 79 = .ok (.ifCond .ne 7, 3) := by decide +kernel
theorem dX8_join_82 : decode cX8_join 82 = .ok (.lconst 0, 1) := by decide +kernel
theorem dX8_join_83 : decode cX8_join 83 = .ok (.goto 14, 3) := by decide +kernel
theorem dX8_join_86 : decode cX8_join 86 = .ok (.lload_n 1, 1) := by decide +kernel
theorem dX8_join_87 : decode cX8_join 87 = .ok (.lload_n 1, 1) := by decide +kernel
theorem dX8_join_88 : decode cX8_join 88 = .ok (.lload_n 3, 1) := by decide +kernel
theorem dX8_join_89 : decode cX8_join 89 = .ok (.lrem, 1) := by decide +kernel
theorem dX8_join_90 : decode cX8_join 90 = .ok (.lload_n 3, 1) := by decide +kernel
theorem dX8_join_91 : decode cX8_join 91 = .ok (.ladd, 1) := by decide +kernel
theorem dX8_join_92 : decode cX8_join 92 = .ok (.lload_n 3, 1) := by decide +kernel
theorem dX8_join_93 : decode cX8_join 93 = .ok (.lrem, 1) := by decide +kernel
theorem dX8_join_94 : decode cX8_join 94 = .ok (.lsub, 1) := by decide +kernel
theorem dX8_join_95 : decode cX8_join 95 = .ok (.lload_n 3, 1) := by decide +kernel
theorem dX8_join_96 : decode cX8_join 96 = .ok (.ldiv, 1) := by decide +kernel
theorem dX8_join_97 : decode cX8_join 97 = .ok (.lreturn, 1) := by decide +kernel
theorem dX8_join_98 : decode cX8_join 98 = .ok (.lload_n 3, 1) := by decide +kernel
theorem dX8_join_99 : decode cX8_join 99 = .ok (.lconst 0, 1) := by decide +kernel
theorem dX8_join_100 : decode cX8_join 100 = .ok (.lcmp, 1) := by decide +kernel
theorem dX8_join_101 : decode cX8_join 101 = .ok (.ifCond .ne 7, 3) := by decide +kernel
theorem dX8_join_104 : decode cX8_join 104 = .ok (.lconst 0, 1) := by decide +kernel
theorem dX8_join_105 : decode cX8_join 105 = .ok (.goto 10, 3) := by decide +kernel
theorem dX8_join_108 : decode cX8_join 108 = .ok (.lload_n 1, 1) := by decide +kernel
theorem dX8_join_109 : decode cX8_join 109 = .ok (.lload_n 3, 1) := by decide +kernel
theorem dX8_join_110 : decode cX8_join 110 = .ok (.lrem, 1) := by decide +kernel
theorem dX8_join_111 : decode cX8_join 111 = .ok (.lload_n 3, 1) := by decide +kernel
theorem dX8_join_112 : decode cX8_join 112 = .ok (.ladd, 1) := by decide +kernel
theorem dX8_join_113 : decode cX8_join 113 = .ok (.lload_n 3, 1) := by decide +kernel
theorem dX8_join_114 : decode cX8_join 114 = .ok (.lrem, 1) := by decide +kernel
theorem dX8_join_115 : decode cX8_join 115 = .ok (.lreturn, 1) := by decide +kernel
theorem dX8_join_116 : decode cX8_join 116 = .ok (.lload_n 1, 1) := by decide +kernel
theorem dX8_join_117 : decode cX8_join 117 = .ok (.lload_n 3, 1) := by decide +kernel
theorem dX8_join_118 : decode cX8_join 118 = .ok (.lcmp, 1) := by decide +kernel
theorem dX8_join_119 : decode cX8_join 119 = .ok (.ifCond .ge 7, 3) := by decide +kernel
theorem dX8_join_122 : decode cX8_join 122 = .ok (.lload_n 1, 1) := by decide +kernel
theorem dX8_join_123 : decode cX8_join 123 = .ok (.goto 4, 3) := by decide +kernel
theorem dX8_join_126 : decode cX8_join 126 = .ok (.lload_n 3, 1) := by decide +kernel
theorem dX8_join_127 : decode cX8_join 127 = .ok (.lreturn, 1) := by decide +kernel
theorem dX8_join_128 : decode cX8_join 128 = .ok (.lload_n 1, 1) := by decide +kernel
theorem dX8_join_129 : decode cX8_join 129 = .ok (.lload_n 3, 1) := by decide +kernel
theorem dX8_join_130 : decode cX8_join 130 = .ok (.lcmp, 1) := by decide +kernel
theorem dX8_join_131 : decode cX8_join 131 = .ok (.ifCond .le 7, 3) := by decide +kernel
theorem dX8_join_134 : decode cX8_join 134 = .ok (.lload_n 1, 1) := by decide +kernel
theorem dX8_join_135 : decode cX8_join 135 = .ok (.goto 4, 3) := by decide +kernel
theorem dX8_join_138 : decode cX8_join 138 = .ok (.lload_n 3, 1) := by decide +kernel
theorem dX8_join_139 : decode cX8_join 139 = .ok (.lreturn, 1) := by decide +kernel
theorem dX8_join_140 : decode cX8_join 140 = .ok (.lload_n 1, 1) := by decide +kernel
theorem dX8_join_141 : decode cX8_join 141 = .ok (.lload_n 3, 1) := by decide +kernel
theorem dX8_join_142 : decode cX8_join 142 = .ok (.lcmp, 1) := by decide +kernel
theorem dX8_join_143 : decode cX8_join 143 = .ok (.ifCond .ge 7, 3) := by decide +kernel
theorem dX8_join_146 : decode cX8_join 146 = .ok (.lconst 1, 1) := by decide +kernel
theorem dX8_join_147 : decode cX8_join 147 = .ok (.goto 4, 3) := by decide +kernel
theorem dX8_join_150 : decode cX8_join 150 = .ok (.lconst 0, 1) := by decide +kernel
theorem dX8_join_151 : decode cX8_join 151 = .ok (.lreturn, 1) := by decide +kernel
theorem dX8_join_152 : decode cX8_join 152 = .ok (.lload_n 1, 1) := by decide +kernel
theorem dX8_join_153 : decode cX8_join 153 = .ok (.lload_n 3, 1) := by decide +kernel
theorem dX8_join_154 : decode cX8_join 154 = .ok (.lcmp, 1) := by decide +kernel
theorem dX8_join_155 : decode cX8_join 155 = .ok (.ifCond .le 7, 3) := by decide +kernel
theorem dX8_join_158 : decode cX8_join 158 = .ok (.lconst 1, 1) := by decide +kernel
theorem dX8_join_159 : decode cX8_join 159 = .ok (.goto 4, 3) := by decide +kernel
theorem dX8_join_162 : decode cX8_join 162 = .ok (.lconst 0, 1) := by decide +kernel
theorem dX8_join_163 : decode cX8_join 163 = .ok (.lreturn, 1) := by decide +kernel
theorem dX8_join_164 : decode cX8_join 164 = .ok (.lload_n 1, 1) := by decide +kernel
theorem dX8_join_165 : decode cX8_join 165 = .ok (.lload_n 3, 1) := by decide +kernel
theorem dX8_join_166 : decode cX8_join 166 = .ok (.lcmp, 1) := by decide +kernel
theorem dX8_join_167 : decode cX8_join 167 = .ok (.ifCond .ne 7, 3) := by decide +kernel
theorem dX8_join_170 : decode cX8_join 170 = .ok (.lconst 1, 1) := by decide +kernel
theorem dX8_join_171 : decode cX8_join 171 = .ok (.goto 4, 3) := by decide +kernel
theorem dX8_join_174 : decode cX8_join 174 = .ok (.lconst 0, 1) := by decide +kernel
theorem dX8_join_175 : decode cX8_join 175 = .ok (.lreturn, 1) := by decide +kernel
theorem dX8_join_176 : decode cX8_join 176 = .ok (.lload_n 1, 1) := by decide +kernel
theorem dX8_join_177 : decode cX8_join 177 = .ok (.lload_n 3, 1) := by decide +kernel
theorem dX8_join_178 : decode cX8_join 178 = .ok (.land, 1) := by decide +kernel
theorem dX8_join_179 : decode cX8_join 179 = .ok (.lreturn, 1) := by decide +kernel
theorem dX8_join_180 : decode cX8_join 180 = .ok (.lload_n 1, 1) := by decide +kernel
theorem dX8_join_181 : decode cX8_join 181 = .ok (.lload_n 3, 1) := by decide +kernel
theorem dX8_join_182 : decode cX8_join 182 = .ok (.lor, 1) := by decide +kernel
theorem dX8_join_183 : decode cX8_join 183 = .ok (.lreturn, 1) := by decide +kernel
theorem dX8_join_184 : decode cX8_join 184 = .ok (.lconst 0, 1) := by decide +kernel
theorem dX8_join_185 : decode cX8_join 185 = .ok (.lreturn, 1) := by decide +kernel
theorem dX8_within_0 : decode cX8_within 0 = .ok (.lload_n 0, 1) := by decide +kernel
theorem dX8_within_1 : decode cX8_within 1 = .ok (.ldc2_w 40, 3) := by decide +kernel
theorem dX8_within_4 : decode cX8_within 4 = .ok (.lcmp, 1) := by decide +kernel
theorem dX8_within_5 : decode cX8_within 5 = .ok (.ifCond .le 9, 3) := by decide +kernel
theorem dX8_within_8 : decode cX8_within 8 = .ok (.ldc2_w 40, 3) := by decide +kernel
theorem dX8_within_11 : decode cX8_within 11 = .ok (.goto 18, 3) := by decide +kernel
theorem dX8_within_14 : decode cX8_within 14 = .ok (.lload_n 0, 1) := by decide +kernel
theorem dX8_within_15 : decode cX8_within 15 = .ok (.ldc2_w 42, 3) := by decide +kernel
theorem dX8_within_18 : decode cX8_within 18 = .ok (.lcmp, 1) := by decide +kernel
theorem dX8_within_19 : decode cX8_within 19 = .ok (.ifCond .ge 9, 3) := by decide +kernel
theorem dX8_within_22 : decode cX8_within 22 = .ok (.ldc2_w 42, 3) := by decide +kernel
theorem dX8_within_25 : decode cX8_within 25 = .ok (.goto 4, 3) := by decide +kernel
theorem dX8_within_28 : decode cX8_within 28 = .ok (.lload_n 0, 1) := by decide +kernel
theorem dX8_within_29 : decode cX8_within 29 = .ok (.lreturn, 1) := by decide +kernel
theorem dX9_init_0 : decode cX9_init 0 = .ok (.aload_n 0, 1) := by decide +kernel
theorem dX9_init_1 : decode cX9_init 1 = .ok (.invokespecial 3, 3) := by decide +kernel
theorem dX9_init_4 : decode cX9_init 4 = .ok (.aload_n 0, 1) := by decide +kernel
theorem dX9_init_5 : decode cX9_init 5 = .ok (.sipush 1600, 3) := by decide +kernel
theorem dX9_init_8 : decode cX9_init 8 = .ok (.newarray .byte, 2) := by decide +kernel
theorem dX9_init_10 : decode cX9_init 10 = .ok (.putfield 9, 3) := by decide +kernel
theorem dX9_init_13 : decode cX9_init 13 = .ok (.aload_n 0, 1) := by decide +kernel
theorem dX9_init_14 : decode cX9_init 14 = .ok (.iconst 0, 1) := by decide +kernel
theorem dX9_init_15 : decode cX9_init 15 = .ok (.putfield 15, 3) := by decide +kernel
theorem dX9_init_18 : decode cX9_init 18 = .ok (.return_, 1) := by decide +kernel
theorem dX9_addNumber_0 : decode cX9_addNumber 0 = .ok (.aload_n 0, 1) := by decide +kernel
theorem dX9_addNumber_1 : decode cX9_addNumber 1 = .ok (.getfield 15, 3) := by decide +kernel
theorem dX9_addNumber_4 : decode cX9_addNumber 4 = .ok (.iconst 4, 1) := by decide +kernel
theorem dX9_addNumber_5 : decode cX9_addNumber 5 = .ok (.iadd, 1) := by decide +kernel
theorem dX9_addNumber_6 : decode cX9_addNumber 6 = .ok (.aload_n 0, 1) := by decide +kernel
theorem dX9_addNumber_7 : decode cX9_addNumber 7 = .ok (.getfield 9, 3) := by decide +kernel
theorem dX9_addNumber_10 : decode cX9_addNumber 10 = .ok (.arraylength, 1) := by decide +kernel
theorem dX9_addNumber_11 : decode cX9_addNumber 11 = .ok (.if_icmp .le 4, 3) := by decide +kernel
theorem dX9_addNumber_14 : decode cX9_addNumber 14 = .ok (.return_, 1) := by decide +kernel
theorem dX9_addNumber_15 : decode cX9_addNumber 15 = .ok (.bipush 24, 2) := by decide +kernel
theorem dX9_addNumber_17 : decode cX9_addNumber 17 = .ok (.istore_n 2, 1) := by decide +kernel
theorem dX9_addNumber_18 : decode cX9_addNumber 18 = .ok (.iload_n 2, 1) := by decide +kernel
theorem dX9_addNumber_19 : decode cX9_addNumber 19 = .ok (.ifCond .lt 32, 3) := by decide +kernel
theorem dX9_addNumber_22 : decode cX9_addNumber 22 = .ok (.aload_n 0, 1) := by decide +kernel
theorem dX9_addNumber_23 : decode cX9_addNumber 23 = .ok (.getfield 9, 3) := by decide +kernel
theorem dX9_addNumber_26 : decode cX9_addNumber 26 = .ok (.aload_n 0, 1) := by decide +kernel
theorem dX9_addNumber_27 : decode cX9_addNumber 27 = .ok (.getfield 15, 3) := by decide +kernel
theorem dX9_addNumber_30 : decode cX9_addNumber 30 = .ok (.iload_n 1, 1) := by decide +kernel
theorem dX9_addNumber_31 : decode cX9_addNumber 31 = .ok (.iload_n 2, 1) := by decide +kernel
theorem dX9_addNumber_32 : decode cX9_addNumber 32 = .ok (.ishr, 1) := by decide +kernel
theorem dX9_addNumber_33 : decode cX9_addNumber 33 = .ok (.i2b, 1) := by decide +kernel
theorem dX9_addNumber_34 : decode cX9_addNumber 34 = .ok (.bastore, 1) := by decide +kernel
theorem dX9_addNumber_35 : decode cX9_addNumber 35 = .ok (.aload_n 0, 1) := by decide +kernel
theorem dX9_addNumber_36 : decode cX9_addNumber 36 = .ok (.dup, 1) := by decide +kernel
theorem dX9_addNumber_37 : decode cX9_addNumber 37 = .ok (.getfield 15, 3) := by decide +kernel
theorem dX9_addNumber_40 : decode cX9_addNumber 40 = .ok (.iconst 1, 1) := by decide +kernel
theorem dX9_addNumber_41 : decode cX9_addNumber 41 = .ok (.iadd, 1) := by decide +kernel
theorem dX9_addNumber_42 : decode cX9_addNumber 42 = .ok (.putfield 15, 3) := by decide +kernel
theorem dX9_addNumber_45 : decode cX9_addNumber 45 = .ok (.iinc 2 (-8), 3) := by decide +kernel
theorem dX9_addNumber_48 : decode cX9_addNumber 48 = .ok (.goto (-30), 3) := by decide +kernel
theorem dX9_addNumber_51 : decode cX9_addNumber 51 = .ok (.return_, 1) := by decide +kernel
theorem dX9_byteAt_0 : decode cX9_byteAt 0 = .ok (.iload_n 1, 1) := by decide +kernel
theorem dX9_byteAt_1 : decode cX9_byteAt 1 = .ok (.ifCond .lt 33, 3) := by decide +kernel
theorem dX9_byteAt_4 : decode cX9_byteAt 4 = .ok (.iload_n 1, 1) := by decide +kernel
theorem dX9_byteAt_5 : decode cX9_byteAt 5 = .ok (.aload_n 0, 1) := by decide +kernel
theorem dX9_byteAt_6 : decode cX9_byteAt 6 = .ok (.getfield 15, 3) := by decide +kernel
theorem dX9_byteAt_9 : decode cX9_byteAt 9 = .ok (.if_icmp .ge 25, 3) := by decide +kernel
theorem dX9_byteAt_12 : decode cX9_byteAt 12 = .ok (.iload_n 1, 1) := by decide +kernel
theorem dX9_byteAt_13 : decode cX9_byteAt 13 = .ok (.aload_n 0, 1) := by decide +kernel
theorem dX9_byteAt_14 : decode cX9_byteAt 14 = .ok (.getfield 9, 3) := by decide +kernel
theorem dX9_byteAt_17 : decode cX9_byteAt 17 = .ok (.arraylength, 1) := by decide +kernel
theorem dX9_byteAt_18 : decode cX9_byteAt 18 = .ok (.if_icmp .ge 16, 3) := by decide +kernel
theorem dX9_byteAt_21 : decode cX9_byteAt 21 = .ok (.aload_n 0, 1) := by decide +kernel
theorem dX9_byteAt_22 : decode cX9_byteAt 22 = .ok (.getfield 9, 3) := by decide +kernel
theorem dX9_byteAt_25 : decode cX9_byteAt 25 = .ok (.iload_n 1, 1) := by decide +kernel
theorem dX9_byteAt_26 : decode cX9_byteAt 26 = .ok (.baload, 1) := by decide +kernel
theorem dX9_byteAt_27 : decode cX9_byteAt 27 = .ok (.sipush 255, 3) := by decide +kernel
theorem dX9_byteAt_30 : decode cX9_byteAt 30 = .ok (.iand, 1) := by decide +kernel
theorem dX9_byteAt_31 : decode cX9_byteAt 31 = .ok (.goto 4, 3) := by decide +kernel
theorem dX9_byteAt_34 : decode cX9_byteAt 34 = .ok (.iconst (-1), 1) := by decide +kernel
theorem dX9_byteAt_35 : decode cX9_byteAt 35 = .ok (.ireturn, 1) := by decide +kernel
theorem dX10_init_0 : decode cX10_init 0 = .ok (.aload_n 0, 1) := by decide +kernel
theorem dX10_init_1 : decode cX10_init 1 = .ok (.invokespecial 3, 3) := by decide +kernel
theorem dX10_init_4 : decode cX10_init 4 = .ok (.aload_n 0, 1) := by decide +kernel
theorem dX10_init_5 : decode cX10_init 5 = .ok (.sipush 1601, 3) := by decide +kernel
theorem dX10_init_8 : decode cX10_init 8 = .ok (.newarray .int, 2) := by decide +kernel
theorem dX10_init_10 : decode cX10_init 10 = .ok (.putfield 9, 3) := by decide +kernel
theorem dX10_init_13 : decode cX10_init 13 = .ok (.aload_n 0, 1) := by decide +kernel
theorem dX10_init_14 : decode cX10_init 14 = .ok (.sipush 1601, 3) := by decide +kernel
theorem dX10_init_17 : decode cX10_init 17 = .ok (.newarray .int, 2) := by decide +kernel
theorem dX10_init_19 : decode cX10_init 19 = .ok (.putfield 15, 3) := by decide +kernel
theorem dX10_init_22 : decode cX10_init 22 = .ok (.aload_n 0, 1) := by decide +kernel
theorem dX10_init_23 : decode cX10_init 23 = .ok (.sipush 1601, 3) := by decide +kernel
theorem dX10_init_26 : decode cX10_init 26 = .ok (.newarray .int, 2) := by decide +kernel
theorem dX10_init_28 : decode cX10_init 28 = .ok (.putfield 18, 3) := by decide +kernel
theorem dX10_init_31 : decode cX10_init 31 = .ok (.aload_n 0, 1) := by decide +kernel
theorem dX10_init_32 : decode cX10_init 32 = .ok (.iconst 0, 1) := by decide +kernel
theorem dX10_init_33 : decode cX10_init 33 = .ok (.putfield 21, 3) := by decide +kernel
theorem dX10_init_36 : decode cX10_init 36 = .ok (.aload_n 0, 1) := by decide +kernel
theorem dX10_init_37 : decode cX10_init 37 = .ok (.iconst 0, 1) := by decide +kernel
theorem dX10_init_38 : decode cX10_init 38 = .ok (.putfield 25, 3) := by decide +kernel
theorem dX10_init_41 : decode cX10_init 41 = .ok (.aload_n 0, 1) := by decide +kernel
theorem dX10_init_42 : decode cX10_init 42 = .ok (.iconst 0, 1) := by decide +kernel
theorem dX10_init_43 : decode cX10_init 43 = .ok (.putfield 28, 3) := by decide +kernel
theorem dX10_init_46 : decode cX10_init 46 = .ok (.return_, 1) := by decide +kernel
theorem dX10_cut_0 : decode cX10_cut 0 = .ok (.aload_n 0, 1) := by decide +kernel
theorem dX10_cut_1 : decode cX10_cut 1 = .ok (.iconst 0, 1) := by decide +kernel
theorem dX10_cut_2 : decode cX10_cut 2 = .ok (.putfield 28, 3) := by decide +kernel
theorem dX10_cut_5 : decode cX10_cut 5 = .ok (.aload_n 0, 1) := by decide +kernel
theorem dX10_cut_6 : decode cX10_cut 6 = .ok (.iconst 0, 1) := by decide +kernel
theorem dX10_cut_7 : decode cX10_cut 7 = .ok (.putfield 21, 3) := by decide +kernel
theorem dX10_cut_10 : decode cX10_cut 10 = .ok (.aload_n 0, 1) := by decide +kernel
theorem dX10_cut_11 : decode cX10_cut 11 = .ok (.iconst 0, 1) := by decide +kernel
theorem dX10_cut_12 : decode cX10_cut 12 = .ok (.putfield 25, 3) := by decide +kernel
theorem dX10_cut_15 : decode cX10_cut 15 = .ok (.iconst 4, 1) := by decide +kernel
theorem dX10_cut_16 : decode cX10_cut 16 = .ok (.istore_n 2, 1) := by decide +kernel
theorem dX10_cut_17 : decode cX10_cut 17 = .ok (.iconst 0, 1) := by decide +kernel
theorem dX10_cut_18 : decode cX10_cut 18 = .ok (.istore_n 3, 1) := by decide +kernel
theorem dX10_cut_19 : decode cX10_cut 19 = .ok (.iload_n 3, 1) := by decide +kernel
theorem dX10_cut_20 : decode cX10_cut 20 = .ok (.aload_n 0, 1) := by decide +kernel
theorem dX10_cut_21 : decode cX10_cut 21 = .ok (.getfield 9, 3) := by decide +kernel
theorem dX10_cut_24 : decode cX10_cut 24 = .ok (.arraylength, 1) := by decide +kernel
theorem dX10_cut_25 : decode cX10_cut 25 = .ok (.if_icmp .ge 91, 3) := by decide +kernel
theorem dX10_cut_28 : decode cX10_cut 28 = .ok (.iload_n 2, 1) := by decide +kernel
theorem dX10_cut_29 : decode cX10_cut 29 = .ok (.iconst 5, 1) := by decide +kernel
theorem dX10_cut_30 : decode cX10_cut 30 = .ok (.if_icmp .eq 86, 3) := by decide +kernel
theorem dX10_cut_33 : decode cX10_cut 33 = .ok (.iload_n 2, 1) := by decide +kernel
theorem dX10_cut_34 : decode cX10_cut 34 = .ok (.ifCond .eq 82, 3) := by decide +kernel
theorem dX10_cut_37 : decode cX10_cut 37 = .ok (.aload_n 0, 1) := by decide +kernel
theorem dX10_cut_38 : decode cX10_cut 38 = .ok (.getfield 25, 3) := by decide +kernel
theorem dX10_cut_41 : decode cX10_cut 41 = .ok (.istore 4, 2) := by decide +kernel
theorem dX10_cut_43 : decode cX10_cut 43 = .ok (.aload_n 0, 1) := by decide +kernel
theorem dX10_cut_44 : decode cX10_cut 44 = .ok (.getfield 25, 3) := by decide +kernel
theorem dX10_cut_47 : decode cX10_cut 47 = .ok (.aload_n 1, 1) := by decide +kernel
theorem dX10_cut_48 : decode cX10_cut 48 = .ok (.getfield 31, 3) := by decide +kernel
theorem dX10_cut_51 : decode cX10_cut 51 = .ok (.if_icmp .ge 30, 3) := by decide +kernel
theorem dX10_cut_54 : decode cX10_cut 54 = .ok (.aload_n 1, 1) := by decide +kernel
theorem dX10_cut_55 : decode cX10_cut 55 = .ok (.aload_n 0, 1) := by decide +kernel
theorem dX10_cut_56 : decode cX10_cut 56 = .ok (.getfield 25, 3) := by decide +kernel
theorem dX10_cut_59 : decode cX10_cut 59 = .ok (.invokevirtual 36, 3) := by decide +kernel
theorem dX10_cut_62 : decode cX10_cut 62 = .ok (.invokestatic 40, 3) := by decide +kernel
theorem dX10_cut_65 : decode cX10_cut 65 = .ok (.ifCond .eq 16, 3) := by decide +kernel
theorem dX10_cut_68 : decode cX10_cut 68 = .ok (.aload_n 0, 1) := by decide +kernel
theorem dX10_cut_69 : decode cX10_cut 69 = .ok (.dup, 1) := by decide +kernel
theorem dX10_cut_70 : decode cX10_cut 70 = .ok (.getfield 25, 3) := by decide +kernel
theorem dX10_cut_73 : decode cX10_cut 73 = .ok (.iconst 1, 1) := by decide +kernel
theorem dX10_cut_74 : decode cX10_cut 74 = .ok (.iadd, 1) := by decide +kernel
theorem dX10_cut_75 : decode cX10_cut 75 = .ok (.putfield 25, 3) := by decide +kernel
theorem dX10_cut_78 : decode cX10_cut 78 = .ok (.goto (-35), 3) := by decide +kernel
theorem dX10_cut_81 : decode cX10_cut 81 = .ok (.aload_n 0, 1) := by decide +kernel
theorem dX10_cut_82 : decode cX10_cut 82 = .ok (.getfield 25, 3) := by decide +kernel
theorem dX10_cut_85 : decode cX10_cut 85 = .ok (.iload 4, 2) := by decide +kernel
theorem dX10_cut_87 : decode cX10_cut 87 = .ok (.if_icmp .ne 12, 3) := by decide +kernel
theorem dX10_cut_90 : decode cX10_cut 90 = .ok (.iload_n 2, 1) := by decide +kernel
theorem dX10_cut_91 : decode cX10_cut 91 = .ok (.iconst 4, 1) := by decide +kernel
theorem dX10_cut_92 : decode cX10_cut 92 = .ok (.if_icmp .eq 7, 3) := by decide +kernel
theorem dX10_cut_95 : decode cX10_cut 95 = .ok (.iconst 1, 1) := by decide +kernel
theorem dX10_cut_96 : decode cX10_cut 96 = .ok (.goto 4, 3) := by decide +kernel
theorem dX10_cut_99 : decode cX10_cut 99 = .ok (.iconst 0, 1) := by decide +kernel
theorem dX10_cut_100 : decode cX10_cut 100 = .ok (.istore 5, 2) := by decide +kernel
theorem dX10_cut_102 : decode cX10_cut 102 = .ok (.aload_n 0, 1) := by decide +kernel
theorem dX10_cut_103 : decode cX10_cut 103 = .ok (.aload_n 1, 1) := by decide +kernel
theorem dX10_cut_104 : decode cX10_cut 104 = .ok (.iload 5, 2) := by decide +kernel
theorem dX10_cut_106 : decode cX10_cut 106 = .ok (.invokevirtual 44, 3) := by decide +kernel
theorem dX10_cut_109 : decode cX10_cut 109 = .ok (.istore_n 2, 1) := by decide +kernel
theorem dX10_cut_110 : decode cX10_cut 110 = .ok (.iinc 3 1, 3) := by decide +kernel
theorem dX10_cut_113 : decode cX10_cut 113 = .ok (.goto (-94), 3) := by decide +kernel
theorem dX10_cut_116 : decode cX10_cut 116 = .ok (.return_, 1) := by decide +kernel
theorem dX10_sortHere_0 : decode cX10_sortHere 0 = .ok (.aload_n 0, 1) := by decide +kernel
theorem dX10_sortHere_1 : decode cX10_sortHere 1 = .ok (.getfield 28, 3) := by decide +kernel
theorem dX10_sortHere_4 : decode cX10_sortHere 4 = .ok (.ifCond .lt 38, 3) := by decide +kernel
theorem dX10_sortHere_7 : decode cX10_sortHere 7 = .ok (.aload_n 0, 1) := by decide +kernel
theorem dX10_sortHere_8 : decode cX10_sortHere 8 = .ok (.getfield 28, 3) := by decide +kernel
theorem dX10_sortHere_11 : decode cX10_sortHere 11 = .ok (.aload_n 0, 1) := by decide +kernel
theorem dX10_sortHere_12 : decode cX10_sortHere 12 = .ok (.getfield 21, 3) := by decide +kernel
theorem dX10_sortHere_15 : decode cX10_sortHere 15 = .ok (.if_icmp .ge 27, 3) := by decide +kernel
theorem dX10_sortHere_18 : decode cX10_sortHere 18 = .ok (.aload_n 0, 1) := by decide +kernel
theorem dX10_sortHere_19 : decode cX10_sortHere 19 = .ok (.getfield 28, 3) := by decide +kernel
theorem dX10_sortHere_22 : decode cX10_sortHere 22 = .ok (.aload_n 0, 1) := by decide +kernel
theorem dX10_sortHere_23 : decode cX10_sortHere 23 = .ok (.getfield 9, 3) := by decide +kernel
theorem dX10_sortHere_26 : decode cX10_sortHere 26 = .ok (.arraylength, 1) := by decide +kernel
theorem dX10_sortHere_27 : decode cX10_sortHere 27 = .ok (.if_icmp .ge 15, 3) := by decide +kernel
theorem dX10_sortHere_30 : decode cX10_sortHere 30 = .ok (.aload_n 0, 1) := by decide +kernel
theorem dX10_sortHere_31 : decode cX10_sortHere 31 = .ok (.getfield 9, 3) := by decide +kernel
theorem dX10_sortHere_34 : decode cX10_sortHere 34 = .ok (.aload_n 0, 1) := by decide +kernel
theorem dX10_sortHere_35 : decode cX10_sortHere 35 = .ok (.getfield 28, 3) := by decide +kernel
theorem dX10_sortHere_38 : decode cX10_sortHere 38 = .ok (.iaload, 1) := by decide +kernel
theorem dX10_sortHere_39 : decode cX10_sortHere 39 = .ok (.goto 4, 3) := by decide +kernel
theorem dX10_sortHere_42 : decode cX10_sortHere 42 = .ok (.iconst 5, 1) := by decide +kernel
theorem dX10_sortHere_43 : decode cX10_sortHere 43 = .ok (.ireturn, 1) := by decide +kernel
theorem dX10_valueHere_0 : decode cX10_valueHere 0 = .ok (.aload_n 0, 1) := by decide +kernel
theorem dX10_valueHere_1 : decode cX10_valueHere 1 = .ok (.getfield 28, 3) := by decide +kernel
theorem dX10_valueHere_4 : decode cX10_valueHere 4 = .ok (.ifCond .lt 38, 3) := by decide +kernel
theorem dX10_valueHere_7 : decode cX10_valueHere 7 = .ok (.aload_n 0, 1) := by decide +kernel
theorem dX10_valueHere_8 : decode cX10_valueHere 8 = .ok (.getfield 28, 3) := by decide +kernel
theorem dX10_valueHere_11 : decode cX10_valueHere 11 = .ok (.aload_n 0, 1) := by decide +kernel
theorem dX10_valueHere_12 : decode cX10_valueHere 12 = .ok (.getfield 21, 3) := by decide +kernel
theorem dX10_valueHere_15 : decode cX10_valueHere 15 = .ok (.if_icmp .ge 27, 3) := by decide +kernel
theorem dX10_valueHere_18 : decode cX10_valueHere 18 = .ok (.aload_n 0, 1) := by decide +kernel
theorem dX10_valueHere_19 : decode cX10_valueHere 19 = .ok (.getfield 28, 3) := by decide +kernel
theorem dX10_valueHere_22 : decode cX10_valueHere 22 = .ok (.aload_n 0, 1) := by decide +kernel
theorem dX10_valueHere_23 : decode cX10_valueHere 23 = .ok (.getfield 15, 3) := by decide +kernel
theorem dX10_valueHere_26 : decode cX10_valueHere 26 = .ok (.arraylength, 1) := by decide +kernel
theorem dX10_valueHere_27 : decode cX10_valueHere 27 = .ok (.if_icmp .ge 15, 3) := by decide +kernel
theorem dX10_valueHere_30 : decode cX10_valueHere 30 = .ok (.aload_n 0, 1) := by decide +kernel
theorem dX10_valueHere_31 : decode cX10_valueHere 31 = .ok (.getfield 15, 3) := by decide +kernel
theorem dX10_valueHere_34 : decode cX10_valueHere 34 = .ok (.aload_n 0, 1) := by decide +kernel
theorem dX10_valueHere_35 : decode cX10_valueHere 35 = .ok (.getfield 28, 3) := by decide +kernel
theorem dX10_valueHere_38 : decode cX10_valueHere 38 = .ok (.iaload, 1) := by decide +kernel
theorem dX10_valueHere_39 : decode cX10_valueHere 39 = .ok (.goto 4, 3) := by decide +kernel
theorem dX10_valueHere_42 : decode cX10_valueHere 42 = .ok (.iconst 0, 1) := by decide +kernel
theorem dX10_valueHere_43 : decode cX10_valueHere 43 = .ok (.ireturn, 1) := by decide +kernel
theorem dX10_placeHere_0 : decode cX10_placeHere 0 = .ok (.aload_n 0, 1) := by decide +kernel
theorem dX10_placeHere_1 : decode cX10_placeHere 1 = .ok (.getfield 28, 3) := by decide +kernel
theorem dX10_placeHere_4 : decode cX10_placeHere 4 = .ok (.ifCond .lt 38, 3) := by decide +kernel
theorem dX10_placeHere_7 : decode cX10_placeHere 7 = .ok (.aload_n 0, 1) := by decide +kernel
theorem dX10_placeHere_8 : decode cX10_placeHere 8 = .ok (.getfield 28, 3) := by decide +kernel
theorem dX10_placeHere_11 : decode cX10_placeHere 11 = .ok (.aload_n 0, 1) := by decide +kernel
theorem dX10_placeHere_12 : decode cX10_placeHere 12 = .ok (.getfield 21, 3) := by decide +kernel
theorem dX10_placeHere_15 : decode cX10_placeHere 15 = .ok (.if_icmp .ge 27, 3) := by decide +kernel
theorem dX10_placeHere_18 : decode cX10_placeHere 18 = .ok (.aload_n 0, 1) := by decide +kernel
theorem dX10_placeHere_19 : decode cX10_placeHere 19 = .ok (.getfield 28, 3) := by decide +kernel
theorem dX10_placeHere_22 : decode cX10_placeHere 22 = .ok (.aload_n 0, 1) := by decide +kernel
theorem dX10_placeHere_23 : decode cX10_placeHere 23 = .ok (.getfield 18, 3) := by decide +kernel
theorem dX10_placeHere_26 : decode cX10_placeHere 26 = .ok (.arraylength, 1) := by decide +kernel
theorem dX10_placeHere_27 : decode cX10_placeHere 27 = .ok (.if_icmp .ge 15, 3) := by decide +kernel
theorem dX10_placeHere_30 : decode cX10_placeHere 30 = .ok (.aload_n 0, 1) := by decide +kernel
theorem dX10_placeHere_31 : decode cX10_placeHere 31 = .ok (.getfield 18, 3) := by decide +kernel
theorem dX10_placeHere_34 : decode cX10_placeHere 34 = .ok (.aload_n 0, 1) := by decide +kernel
theorem dX10_placeHere_35 : decode cX10_placeHere 35 = .ok (.getfield 28, 3) := by decide +kernel
theorem dX10_placeHere_38 : decode cX10_placeHere 38 = .ok (.iaload, 1) := by decide +kernel
theorem dX10_placeHere_39 : decode cX10_placeHere 39 = .ok (.goto 4, 3) := by decide +kernel
theorem dX10_placeHere_42 : decode cX10_placeHere 42 = .ok (.iconst 0, 1) := by decide +kernel
theorem dX10_placeHere_43 : decode cX10_placeHere 43 = .ok (.ireturn, 1) := by decide +kernel
theorem dX10_beginHere_0 : decode cX10_beginHere 0 = .ok (.aload_n 0, 1) := by decide +kernel
theorem dX10_beginHere_1 : decode cX10_beginHere 1 = .ok (.getfield 28, 3) := by decide +kernel
theorem dX10_beginHere_4 : decode cX10_beginHere 4 = .ok (.ifCond .lt 26, 3) := by decide +kernel
theorem dX10_beginHere_7 : decode cX10_beginHere 7 = .ok (.aload_n 0, 1) := by decide +kernel
theorem dX10_beginHere_8 : decode cX10_beginHere 8 = .ok (.getfield 28, 3) := by decide +kernel
theorem dX10_beginHere_11 : decode cX10_beginHere 11 = .ok (.aload_n 0, 1) := by decide +kernel
theorem dX10_beginHere_12 : decode cX10_beginHere 12 = .ok (.getfield 21, 3) := by decide +kernel
theorem dX10_beginHere_15 : decode cX10_beginHere 15 = .ok (.if_icmp .ge 15, 3) := by decide +kernel
theorem dX10_beginHere_18 : decode cX10_beginHere 18 = .ok (.aload_n 0, 1) := by decide +kernel
theorem dX10_beginHere_19 : decode cX10_beginHere 19 = .ok (.getfield 28, 3) := by decide +kernel
theorem dX10_beginHere_22 : decode cX10_beginHere 22 = .ok (.aload_n 0, 1) := by decide +kernel
theorem dX10_beginHere_23 : decode cX10_beginHere 23 = .ok (.getfield 9, 3) := by decide +kernel
theorem dX10_beginHere_26 : decode cX10_beginHere 26 = .ok (.arraylength, 1) := by decide +kernel
theorem dX10_beginHere_27 : decode cX10_beginHere 27 = .ok (.if_icmp .lt 5, 3) := by decide +kernel
theorem dX10_beginHere_30 : decode cX10_beginHere 30 = .ok (.iconst 0, 1) := by decide +kernel
theorem dX10_beginHere_31 : decode cX10_beginHere 31 = .ok (.ireturn, 1) := by decide +kernel
theorem dX10_beginHere_32 : decode cX10_beginHere 32 = .ok (.aload_n 0, 1) := by decide +kernel
theorem dX10_beginHere_33 : decode cX10_beginHere 33 = .ok (.getfield 9, 3) := by decide +kernel
theorem dX10_beginHere_36 : decode cX10_beginHere 36 = .ok (.aload_n 0, 1) := by decide +kernel
theorem dX10_beginHere_37 : decode cX10_beginHere 37 = .ok (.getfield 28, 3) := by decide +kernel
theorem dX10_beginHere_40 : decode cX10_beginHere 40 = .ok (.iaload, 1) := by decide +kernel
theorem dX10_beginHere_41 : decode cX10_beginHere 41 = .ok (.iconst 5, 1) := by decide +kernel
theorem dX10_beginHere_42 : decode cX10_beginHere 42 = .ok (.if_icmp .ne 15, 3) := by decide +kernel
theorem dX10_beginHere_45 : decode cX10_beginHere 45 = .ok (.aload_n 0, 1) := by decide +kernel
theorem dX10_beginHere_46 : decode cX10_beginHere 46 = .ok (.getfield 15, 3) := by decide +kernel
theorem dX10_beginHere_49 : decode cX10_beginHere 49 = .ok (.aload_n 0, 1) := by decide +kernel
theorem dX10_beginHere_50 : decode cX10_beginHere 50 = .ok (.getfield 28, 3) := by decide +kernel
theorem dX10_beginHere_53 : decode cX10_beginHere 53 = .ok (.iaload, 1) := by decide +kernel
theorem dX10_beginHere_54 : decode cX10_beginHere 54 = .ok (.goto 12, 3) := by decide +kernel
theorem dX10_beginHere_57 : decode cX10_beginHere 57 = .ok (.aload_n 0, 1) := by decide +kernel
theorem dX10_beginHere_58 : decode cX10_beginHere 58 = .ok (.getfield 18, 3) := by decide +kernel
theorem dX10_beginHere_61 : decode cX10_beginHere 61 = .ok (.aload_n 0, 1) := by decide +kernel
theorem dX10_beginHere_62 : decode cX10_beginHere 62 = .ok (.getfield 28, 3) := by decide +kernel
theorem dX10_beginHere_65 : decode cX10_beginHere 65 = .ok (.iaload, 1) := by decide +kernel
theorem dX10_beginHere_66 : decode cX10_beginHere 66 = .ok (.ireturn, 1) := by decide +kernel
theorem dX10_isHere_0 : decode cX10_isHere 0 = .ok (.aload_n 0, 1) := by decide +kernel
theorem dX10_isHere_1 : decode cX10_isHere 1 = .ok (.getfield 28, 3) := by decide +kernel
theorem dX10_isHere_4 : decode cX10_isHere 4 = .ok (.ifCond .lt 56, 3) := by decide +kernel
theorem dX10_isHere_7 : decode cX10_isHere 7 = .ok (.aload_n 0, 1) := by decide +kernel
theorem dX10_isHere_8 : decode cX10_isHere 8 = .ok (.getfield 28, 3) := by decide +kernel
theorem dX10_isHere_11 : decode cX10_isHere 11 = .ok (.aload_n 0, 1) := by decide +kernel
theorem dX10_isHere_12 : decode cX10_isHere 12 = .ok (.getfield 21, 3) := by decide +kernel
theorem dX10_isHere_15 : decode cX10_isHere 15 = .ok (.if_icmp .ge 45, 3) := by decide +kernel
theorem dX10_isHere_18 : decode cX10_isHere 18 = .ok (.aload_n 0, 1) := by decide +kernel
theorem dX10_isHere_19 : decode cX10_isHere 19 = .ok (.getfield 28, 3) := by decide +kernel
theorem dX10_isHere_22 : decode cX10_isHere 22 = .ok (.aload_n 0, 1) := by decide +kernel
theorem dX10_isHere_23 : decode cX10_isHere 23 = .ok (.getfield 9, 3) := by decide +kernel
theorem dX10_isHere_26 : decode cX10_isHere 26 = .ok (.arraylength, 1) := by decide +kernel
theorem dX10_isHere_27 : decode cX10_isHere 27 = .ok (.if_icmp .ge 33, 3) := by decide +kernel
theorem dX10_isHere_30 : decode cX10_isHere 30 = .ok (.aload_n 0, 1) := by decide +kernel
theorem dX10_isHere_31 : decode cX10_isHere 31 = .ok (.getfield 9, 3) := by decide +kernel
theorem dX10_isHere_34 : decode cX10_isHere 34 = .ok (.aload_n 0, 1) := by decide +kernel
theorem dX10_isHere_35 : decode cX10_isHere 35 = .ok (.getfield 28, 3) := by decide +kernel
theorem dX10_isHere_38 : decode cX10_isHere 38 = .ok (.iaload, 1) := by decide +kernel
theorem dX10_isHere_39 : decode cX10_isHere 39 = .ok (.iload_n 1, 1) := by decide +kernel
theorem dX10_isHere_40 : decode cX10_isHere 40 = .ok (.if_icmp .ne 20, 3) := by decide +kernel
theorem dX10_isHere_43 : decode cX10_isHere 43 = .ok (.aload_n 0, 1) := by decide +kernel
theorem dX10_isHere_44 : decode cX10_isHere 44 = .ok (.getfield 15, 3) := by decide +kernel
theorem dX10_isHere_47 : decode cX10_isHere 47 = .ok (.aload_n 0, 1) := by decide +kernel
theorem dX10_isHere_48 : decode cX10_isHere 48 = .ok (.getfield 28, 3) := by decide +kernel
theorem dX10_isHere_51 : decode cX10_isHere 51 = .ok (.iaload, 1) := by decide +kernel
theorem dX10_isHere_52 : decode cX10_isHere 52 = .ok (.iload_n 2, 1) := by decide +kernel
theorem dX10_isHere_53 : decode cX10_isHere 53 = .ok (.if_icmp .ne 7, 3) := by decide +kernel
theorem dX10_isHere_56 : decode cX10_isHere 56 = .ok (.iconst 1, 1) := by decide +kernel
theorem dX10_isHere_57 : decode cX10_isHere 57 = .ok (.goto 4, 3) := by decide +kernel
theorem dX10_isHere_60 : decode cX10_isHere 60 = .ok (.iconst 0, 1) := by decide +kernel
theorem dX10_isHere_61 : decode cX10_isHere 61 = .ok (.ireturn, 1) := by decide +kernel
theorem dX10_step_0 : decode cX10_step 0 = .ok (.aload_n 0, 1) := by decide +kernel
theorem dX10_step_1 : decode cX10_step 1 = .ok (.aload_n 0, 1) := by decide +kernel
theorem dX10_step_2 : decode cX10_step 2 = .ok (.getfield 28, 3) := by decide +kernel
theorem dX10_step_5 : decode cX10_step 5 = .ok (.aload_n 0, 1) := by decide +kernel
theorem dX10_step_6 : decode cX10_step 6 = .ok (.getfield 21, 3) := by decide +kernel
theorem dX10_step_9 : decode cX10_step 9 = .ok (.if_icmp .ge 12, 3) := by decide +kernel
theorem dX10_step_12 : decode cX10_step 12 = .ok (.aload_n 0, 1) := by decide +kernel
theorem dX10_step_13 : decode cX10_step 13 = .ok (.getfield 28, 3) := by decide +kernel
theorem dX10_step_16 : decode cX10_step 16 = .ok (.iconst 1, 1) := by decide +kernel
theorem dX10_step_17 : decode cX10_step 17 = .ok (.iadd, 1) := by decide +kernel
theorem dX10_step_18 : decode cX10_step 18 = .ok (.goto 7, 3) := by decide +kernel
theorem dX10_step_21 : decode cX10_step 21 = .ok (.aload_n 0, 1) := by decide +kernel
theorem dX10_step_22 : decode cX10_step 22 = .ok (.getfield 21, 3) := by decide +kernel
theorem dX10_step_25 : decode cX10_step 25 = .ok (.putfield 28, 3) := by decide +kernel
theorem dX10_step_28 : decode cX10_step 28 = .ok (.return_, 1) := by decide +kernel
theorem dX10_stop_0 : decode cX10_stop 0 = .ok (.aload_n 0, 1) := by decide +kernel
theorem dX10_stop_1 : decode cX10_stop 1 = .ok (.aload_n 0, 1) := by decide +kernel
theorem dX10_stop_2 : decode cX10_stop 2 = .ok (.getfield 21, 3) := by decide +kernel
theorem dX10_stop_5 : decode cX10_stop 5 = .ok (.putfield 28, 3) := by decide +kernel
theorem dX10_stop_8 : decode cX10_stop 8 = .ok (.return_, 1) := by decide +kernel
theorem dX10_cutOne_0 : decode cX10_cutOne 0 = .ok (.aload_n 1, 1) := by decide +kernel
theorem dX10_cutOne_1 : decode cX10_cutOne 1 = .ok (.aload_n 0, 1) := by decide +kernel
theorem dX10_cutOne_2 : decode cX10_cutOne 2 = .ok (.getfield 25, 3) := by decide +kernel
theorem dX10_cutOne_5 : decode cX10_cutOne 5 = .ok (.invokevirtual 36, 3) := by decide +kernel
theorem dX10_cutOne_8 : decode cX10_cutOne 8 = .ok (.istore_n 3, 1) := by decide +kernel
theorem dX10_cutOne_9 : decode cX10_cutOne 9 = .ok (.iload_n 3, 1) := by decide +kernel
theorem dX10_cutOne_10 : decode cX10_cutOne 10 = .ok (.iconst (-1), 1) := by decide +kernel
theorem dX10_cutOne_11 : decode cX10_cutOne 11 = .ok (.if_icmp .ne 14, 3) := by decide +kernel
theorem dX10_cutOne_14 : decode cX10_cutOne 14 = .ok (.aload_n 0, 1) := by decide +kernel
theorem dX10_cutOne_15 : decode cX10_cutOne 15 = .ok (.iconst 0, 1) := by decide +kernel
theorem dX10_cutOne_16 : decode cX10_cutOne 16 = .ok (.iconst 0, 1) := by decide +kernel
theorem dX10_cutOne_17 : decode cX10_cutOne 17 = .ok (.aload_n 0, 1) := by decide +kernel
theorem dX10_cutOne_18 : decode cX10_cutOne 18 = .ok (.getfield 25, 3) := by decide +kernel
theorem dX10_cutOne_21 : decode cX10_cutOne 21 = .ok (.invokevirtual 48, 3) := by decide +kernel
theorem dX10_cutOne_24 : decode cX10_cutOne 24 = .ok (.ireturn, 1) := by decide +kernel
theorem dX10_cutOne_25 : decode cX10_cutOne 25 = .ok (.iload_n 3, 1) := by decide +kernel
theorem dX10_cutOne_26 : decode cX10_cutOne 26 = .ok (.invokestatic 52, 3) := by decide +kernel
theorem dX10_cutOne_29 : decode cX10_cutOne 29 = .ok (.ifCond .eq 13, 3) := by decide +kernel
theorem dX10_cutOne_32 : decode cX10_cutOne 32 = .ok (.iload_n 2, 1) := by decide +kernel
theorem dX10_cutOne_33 : decode cX10_cutOne 33 = .ok (.ifCond .ne 9, 3) := by decide +kernel
theorem dX10_cutOne_36 : decode cX10_cutOne 36 = .ok (.aload_n 0, 1) := by decide +kernel
theorem dX10_cutOne_37 : decode cX10_cutOne 37 = .ok (.aload_n 1, 1) := by decide +kernel
theorem dX10_cutOne_38 : decode cX10_cutOne 38 = .ok (.invokevirtual 55, 3) := by decide +kernel
theorem dX10_cutOne_41 : decode cX10_cutOne 41 = .ok (.ireturn, 1) := by decide +kernel
theorem dX10_cutOne_42 : decode cX10_cutOne 42 = .ok (.iload_n 3, 1) := by decide +kernel
theorem dX10_cutOne_43 : decode cX10_cutOne 43 = .ok (.invokestatic 59, 3) := by decide +kernel
theorem dX10_cutOne_46 : decode cX10_cutOne 46 = .ok (.ifCond .eq 13, 3) := by decide +kernel
theorem dX10_cutOne_49 : decode cX10_cutOne 49 = .ok (.iload_n 2, 1) := by decide +kernel
theorem dX10_cutOne_50 : decode cX10_cutOne 50 = .ok (.ifCond .ne 9, 3) := by decide +kernel
theorem dX10_cutOne_53 : decode cX10_cutOne 53 = .ok (.aload_n 0, 1) := by decide +kernel
theorem dX10_cutOne_54 : decode cX10_cutOne 54 = .ok (.aload_n 1, 1) := by decide +kernel
theorem dX10_cutOne_55 : decode cX10_cutOne 55 = .ok (.invokevirtual 62, 3) := by decide +kernel
theorem dX10_cutOne_58 : decode cX10_cutOne 58 = .ok (.ireturn, 1) := by decide +kernel
theorem dX10_cutOne_59 : decode cX10_cutOne 59 = .ok (.ldc 65, 2) := by decide +kernel
theorem dX10_cutOne_61 : decode cX10_cutOne 61 = .ok (.iload_n 3, 1) := by decide +kernel
theorem dX10_cutOne_62 : decode cX10_cutOne 62 = .ok (.i2c, 1) := by decide +kernel
theorem dX10_cutOne_63 : decode cX10_cutOne 63 = .ok (.invokevirtual 67, 3) := by decide +kernel
theorem dX10_cutOne_66 : decode cX10_cutOne 66 = .ok (.ifCond .ge 17, 3) := by decide +kernel
theorem dX10_cutOne_69 : decode cX10_cutOne 69 = .ok (.aload_n 0, 1) := by decide +kernel
theorem dX10_cutOne_70 : decode cX10_cutOne 70 = .ok (.iconst 5, 1) := by decide +kernel
theorem dX10_cutOne_71 : decode cX10_cutOne 71 = .ok (.aload_n 0, 1) := by decide +kernel
theorem dX10_cutOne_72 : decode cX10_cutOne 72 = .ok (.getfield 25, 3) := by decide +kernel
theorem dX10_cutOne_75 : decode cX10_cutOne 75 = .ok (.aload_n 0, 1) := by decide +kernel
theorem dX10_cutOne_76 : decode cX10_cutOne 76 = .ok (.getfield 25, 3) := by decide +kernel
theorem dX10_cutOne_79 : decode cX10_cutOne 79 = .ok (.invokevirtual 48, 3) := by decide +kernel
theorem dX10_cutOne_82 : decode cX10_cutOne 82 = .ok (.ireturn, 1) := by decide +kernel
theorem dX10_cutOne_83 : decode cX10_cutOne 83 = .ok (.aload_n 0, 1) := by decide +kernel
theorem dX10_cutOne_84 : decode cX10_cutOne 84 = .ok (.dup, 1) := by decide +kernel
theorem dX10_cutOne_85 : decode cX10_cutOne 85 = .ok (.getfield 25, 3) := by decide +kernel
theorem dX10_cutOne_88 : decode cX10_cutOne 88 = .ok (.iconst 1, 1) := by decide +kernel
theorem dX10_cutOne_89 : decode cX10_cutOne 89 = .ok (.iadd, 1) := by decide +kernel
theorem dX10_cutOne_90 : decode cX10_cutOne 90 = .ok (.putfield 25, 3) := by decide +kernel
theorem dX10_cutOne_93 : decode cX10_cutOne 93 = .ok (.aload_n 0, 1) := by decide +kernel
theorem dX10_cutOne_94 : decode cX10_cutOne 94 = .ok (.iconst 4, 1) := by decide +kernel
theorem dX10_cutOne_95 : decode cX10_cutOne 95 = .ok (.iload_n 3, 1) := by decide +kernel
theorem dX10_cutOne_96 : decode cX10_cutOne 96 = .ok (.aload_n 0, 1) := by decide +kernel
theorem dX10_cutOne_97 : decode cX10_cutOne 97 = .ok (.getfield 25, 3) := by decide +kernel
theorem dX10_cutOne_100 : decode cX10_cutOne 100 = .ok (.iconst 1, 1) := by decide +kernel
theorem dX10_cutOne_101 : decode cX10_cutOne 101 = .ok (.isub, 1) := by decide +kernel
theorem dX10_cutOne_102 : decode cX10_cutOne 102 = .ok (.invokevirtual 48, 3) := by decide +kernel
theorem dX10_cutOne_105 : decode cX10_cutOne 105 = .ok (.ireturn, 1) := by decide +kernel
theorem dX10_cutWord_0 : decode cX10_cutWord 0 = .ok (.aload_n 0, 1) := by decide +kernel
theorem dX10_cutWord_1 : decode cX10_cutWord 1 = .ok (.getfield 25, 3) := by decide +kernel
theorem dX10_cutWord_4 : decode cX10_cutWord 4 = .ok (.istore_n 2, 1) := by decide +kernel
theorem dX10_cutWord_5 : decode cX10_cutWord 5 = .ok (.iconst 0, 1) := by decide +kernel
theorem dX10_cutWord_6 : decode cX10_cutWord 6 = .ok (.istore_n 3, 1) := by decide +kernel
theorem dX10_cutWord_7 : decode cX10_cutWord 7 = .ok (.aload_n 0, 1) := by decide +kernel
theorem dX10_cutWord_8 : decode cX10_cutWord 8 = .ok (.getfield 25, 3) := by decide +kernel
theorem dX10_cutWord_11 : decode cX10_cutWord 11 = .ok (.iload_n 2, 1) := by decide +kernel
theorem dX10_cutWord_12 : decode cX10_cutWord 12 = .ok (.bipush 6, 2) := by decide +kernel
theorem dX10_cutWord_14 : decode cX10_cutWord 14 = .ok (.iadd, 1) := by decide +kernel
theorem dX10_cutWord_15 : decode cX10_cutWord 15 = .ok (.if_icmp .ge 49, 3) := by decide +kernel
theorem dX10_cutWord_18 : decode cX10_cutWord 18 = .ok (.aload_n 1, 1) := by decide +kernel
theorem dX10_cutWord_19 : decode cX10_cutWord 19 = .ok (.aload_n 0, 1) := by decide +kernel
theorem dX10_cutWord_20 : decode cX10_cutWord 20 = .ok (.getfield 25, 3) := by decide +kernel
theorem dX10_cutWord_23 : decode cX10_cutWord 23 = .ok (.invokevirtual 36, 3) := by decide +kernel
theorem dX10_cutWord_26 : decode cX10_cutWord 26 = .ok (.invokestatic 52, 3) := by decide +kernel
theorem dX10_cutWord_29 : decode cX10_cutWord 29 = .ok (.ifCond .eq 35, 3) := by decide +kernel
theorem dX10_cutWord_32 : decode cX10_cutWord 32 = .ok (.iload_n 3, 1) := by decide +kernel
theorem dX10_cutWord_33 : decode cX10_cutWord 33 = .ok (.bipush 27, 2) := by decide +kernel
theorem dX10_cutWord_35 : decode cX10_cutWord 35 = .ok (.imul, 1) := by decide +kernel
theorem dX10_cutWord_36 : decode cX10_cutWord 36 = .ok (.aload_n 1, 1) := by decide +kernel
theorem dX10_cutWord_37 : decode cX10_cutWord 37 = .ok (.aload_n 0, 1) := by decide +kernel
theorem dX10_cutWord_38 : decode cX10_cutWord 38 = .ok (.getfield 25, 3) := by decide +kernel
theorem dX10_cutWord_41 : decode cX10_cutWord 41 = .ok (.invokevirtual 36, 3) := by decide +kernel
theorem dX10_cutWord_44 : decode cX10_cutWord 44 = .ok (.bipush 97, 2) := by decide +kernel
theorem dX10_cutWord_46 : decode cX10_cutWord 46 = .ok (.isub, 1) := by decide +kernel
theorem dX10_cutWord_47 : decode cX10_cutWord 47 = .ok (.iconst 1, 1) := by decide +kernel
theorem dX10_cutWord_48 : decode cX10_cutWord 48 = .ok (.iadd, 1) := by decide +kernel
theorem dX10_cutWord_49 : decode cX10_cutWord 49 = .ok (.iadd, 1) := by decide +kernel
theorem dX10_cutWord_50 : decode cX10_cutWord 50 = .ok (.istore_n 3, 1) := by decide +kernel
theorem dX10_cutWord_51 : decode cX10_cutWord 51 = .ok (.aload_n 0, 1) := by decide +kernel
theorem dX10_cutWord_52 : decode cX10_cutWord 52 = .ok (.dup, 1) := by decide +kernel
theorem dX10_cutWord_53 : decode cX10_cutWord 53 = .ok (.getfield 25, 3) := by decide +kernel
theorem dX10_cutWord_56 : decode cX10_cutWord 56 = .ok (.iconst 1, 1) := by decide +kernel
theorem dX10_cutWord_57 : decode cX10_cutWord 57 = .ok (.iadd, 1) := by decide +kernel
theorem dX10_cutWord_58 : decode cX10_cutWord 58 = .ok (.putfield 25, 3) := by decide +kernel
theorem dX10_cutWord_61 : decode cX10_cutWord 61 = .ok (.goto (-54), 3) := by decide +kernel
theorem dX10_cutWord_64 : decode cX10_cutWord 64 = .ok (.aload_n 1, 1) := by decide +kernel
theorem dX10_cutWord_65 : decode cX10_cutWord 65 = .ok (.aload_n 0, 1) := by decide +kernel
theorem dX10_cutWord_66 : decode cX10_cutWord 66 = .ok (.getfield 25, 3) := by decide +kernel
theorem dX10_cutWord_69 : decode cX10_cutWord 69 = .ok (.invokevirtual 36, 3) := by decide +kernel
theorem dX10_cutWord_72 : decode cX10_cutWord 72 = .ok (.invokestatic 52, 3) := by decide +kernel
theorem dX10_cutWord_75 : decode cX10_cutWord 75 = .ok (.ifCond .eq 14, 3) := by decide +kernel
theorem dX10_cutWord_78 : decode cX10_cutWord 78 = .ok (.aload_n 0, 1) := by decide +kernel
theorem dX10_cutWord_79 : decode cX10_cutWord 79 = .ok (.iconst 5, 1) := by decide +kernel
theorem dX10_cutWord_80 : decode cX10_cutWord 80 = .ok (.iload_n 2, 1) := by decide +kernel
theorem dX10_cutWord_81 : decode cX10_cutWord 81 = .ok (.aload_n 0, 1) := by decide +kernel
theorem dX10_cutWord_82 : decode cX10_cutWord 82 = .ok (.getfield 25, 3) := by decide +kernel
theorem dX10_cutWord_85 : decode cX10_cutWord 85 = .ok (.invokevirtual 48, 3) := by decide +kernel
theorem dX10_cutWord_88 : decode cX10_cutWord 88 = .ok (.ireturn, 1) := by decide +kernel
theorem dX10_cutWord_89 : decode cX10_cutWord 89 = .ok (.iload_n 3, 1) := by decide +kernel
theorem dX10_cutWord_90 : decode cX10_cutWord 90 = .ok (.invokestatic 72, 3) := by decide +kernel
theorem dX10_cutWord_93 : decode cX10_cutWord 93 = .ok (.istore 4, 2) := by decide +kernel
theorem dX10_cutWord_95 : decode cX10_cutWord 95 = .ok (.iload 4, 2) := by decide +kernel
theorem dX10_cutWord_97 : decode cX10_cutWord 97 = .ok (.iconst (-1), 1) := by decide +kernel
theorem dX10_cutWord_98 : decode cX10_cutWord 98 = .ok (.if_icmp .ne 13, 3) := by decide +kernel
theorem dX10_cutWord_101 : decode cX10_cutWord 101 = .ok (.aload_n 0, 1) := by decide +kernel
theorem dX10_cutWord_102 : decode cX10_cutWord 102 = .ok (.iconst 2, 1) := by decide +kernel
theorem dX10_cutWord_103 : decode cX10_cutWord 103 = .ok (.iload_n 3, 1) := by decide +kernel
theorem dX10_cutWord_104 : decode cX10_cutWord 104 = .ok (.iload_n 2, 1) := by decide +kernel
theorem dX10_cutWord_105 : decode cX10_cutWord 105 = .ok (.invokevirtual 48, 3) := by decide +kernel
theorem dX10_cutWord_108 : decode cX10_cutWord 108 = .ok (.goto 11, 3) := by decide +kernel
theorem dX10_cutWord_111 : decode cX10_cutWord 111 = .ok (.aload_n 0, 1) := by decide +kernel
theorem dX10_cutWord_112 : decode cX10_cutWord 112 = .ok (.iconst 1, 1) := by decide +kernel
theorem dX10_cutWord_113 : decode cX10_cutWord 113 = .ok (.iload 4, 2) := by decide +kernel
theorem dX10_cutWord_115 : decode cX10_cutWord 115 = .ok (.iload_n 2, 1) := by decide +kernel
theorem dX10_cutWord_116 : decode cX10_cutWord 116 = .ok (.invokevirtual 48, 3) := by decide +kernel
theorem dX10_cutWord_119 : decode cX10_cutWord 119 = .ok (.ireturn, 1) := by decide +kernel
theorem dX10_cutNumber_0 : decode cX10_cutNumber 0 = .ok (.aload_n 0, 1) := by decide +kernel
theorem dX10_cutNumber_1 : decode cX10_cutNumber 1 = .ok (.getfield 25, 3) := by decide +kernel
theorem dX10_cutNumber_4 : decode cX10_cutNumber 4 = .ok (.istore_n 2, 1) := by decide +kernel
theorem dX10_cutNumber_5 : decode cX10_cutNumber 5 = .ok (.iconst 0, 1) := by decide +kernel
theorem dX10_cutNumber_6 : decode cX10_cutNumber 6 = .ok (.istore_n 3, 1) := by decide +kernel
theorem dX10_cutNumber_7 : decode cX10_cutNumber 7 = .ok (.aload_n 0, 1) := by decide +kernel
theorem dX10_cutNumber_8 : decode cX10_cutNumber 8 = .ok (.getfield 25, 3) := by decide +kernel
theorem dX10_cutNumber_11 : decode cX10_cutNumber 11 = .ok (.iload_n 2, 1) := by decide +kernel
theorem dX10_cutNumber_12 : decode cX10_cutNumber 12 = .ok (.iconst 4, 1) := by decide +kernel
theorem dX10_cutNumber_13 : decode cX10_cutNumber 13 = .ok (.iadd, 1) := by decide +kernel
theorem dX10_cutNumber_14 : decode cX10_cutNumber 14 = .ok (.if_icmp .ge 47, 3) := by decide +kernel
theorem dX10_cutNumber_17 : decode cX10_cutNumber 17 = .ok (.aload_n 1, 1) := by decide +kernel
theorem dX10_cutNumber_18 : decode cX10_cutNumber 18 = .ok (.aload_n 0, 1) := by decide +kernel
theorem dX10_cutNumber_19 : decode cX10_cutNumber 19 = .ok (.getfield 25, 3) := by decide +kernel
theorem dX10_cutNumber_22 : decode cX10_cutNumber 22 = .ok (.invokevirtual 36, 3) := by decide +kernel
theorem dX10_cutNumber_25 : decode cX10_cutNumber 25 = .ok (.invokestatic 59, 3) := by decide +kernel
theorem dX10_cutNumber_28 : decode cX10_cutNumber 28 = .ok (.ifCond .eq 33, 3) := by decide +kernel
theorem dX10_cutNumber_31 : decode cX10_cutNumber 31 = .ok (.iload_n 3, 1) := by decide +kernel
theorem dX10_cutNumber_32 : decode cX10_cutNumber 32 = .ok (.bipush 10, 2) := by decide +kernel
theorem dX10_cutNumber_34 : decode cX10_cutNumber 34 = .ok (.imul, 1) := by decide +kernel
theorem dX10_cutNumber_35 : decode cX10_cutNumber 35 = .ok (.aload_n 1, 1) := by decide +kernel
theorem dX10_cutNumber_36 : decode cX10_cutNumber 36 = .ok (.aload_n 0, 1) := by decide +kernel
theorem dX10_cutNumber_37 : decode cX10_cutNumber 37 = .ok (.getfield 25, 3) := by decide +kernel
theorem dX10_cutNumber_40 : decode cX10_cutNumber 40 = .ok (.invokevirtual 36, 3) := by decide +kernel
theorem dX10_cutNumber_43 : decode cX10_cutNumber 43 = .ok (.bipush 48, 2) := by decide +kernel
theorem dX10_cutNumber_45 : decode cX10_cutNumber 45 = .ok (.isub, 1) := by decide +kernel
theorem dX10_cutNumber_46 : decode cX10_cutNumber 46 = .ok (.iadd, 1) := by decide +kernel
theorem dX10_cutNumber_47 : decode cX10_cutNumber 47 = .ok (.istore_n 3, 1) := by decide +kernel
theorem dX10_cutNumber_48 : decode cX10_cutNumber 48 = .ok (.aload_n 0, 1) := by decide +kernel
theorem dX10_cutNumber_49 : decode cX10_cutNumber 49 = .ok (.dup, 1) := by decide +kernel
theorem dX10_cutNumber_50 : decode cX10_cutNumber 50 = .ok (.getfield 25, 3) := by decide +kernel
theorem dX10_cutNumber_53 : decode cX10_cutNumber 53 = .ok (.iconst 1, 1) := by decide +kernel
theorem dX10_cutNumber_54 : decode cX10_cutNumber 54 = .ok (.iadd, 1) := by decide +kernel
theorem dX10_cutNumber_55 : decode cX10_cutNumber 55 = .ok (.putfield 25, 3) := by decide +kernel
theorem dX10_cutNumber_58 : decode cX10_cutNumber 58 = .ok (.goto (-51), 3) := by decide +kernel
theorem dX10_cutNumber_61 : decode cX10_cutNumber 61 = .ok (.aload_n 1, 1) := by decide +kernel
theorem dX10_cutNumber_62 : decode cX10_cutNumber 62 = .ok (.aload_n 0, 1) := by decide +kernel
theorem dX10_cutNumber_63 : decode cX10_cutNumber 63 = .ok (.getfield 25, 3) := by decide +kernel
theorem dX10_cutNumber_66 : decode cX10_cutNumber 66 = .ok (.invokevirtual 36, 3) := by decide +kernel
theorem dX10_cutNumber_69 : decode cX10_cutNumber 69 = .ok (.invokestatic 59, 3) := by decide +kernel
theorem dX10_cutNumber_72 : decode cX10_cutNumber 72 = .ok (.ifCond .eq 16, 3) := by decide +kernel
theorem dX10_cutNumber_75 : decode cX10_cutNumber 75 = .ok (.aload_n 0, 1) := by decide +kernel
theorem dX10_cutNumber_76 : decode cX10_cutNumber 76 = .ok (.iconst 5, 1) := by decide +kernel
theorem dX10_cutNumber_77 : decode cX10_cutNumber 77 = .ok (.iload_n 2, 1) := by decide +kernel
theorem dX10_cutNumber_78 : decode cX10_cutNumber 78 = .ok (.aload_n 0, 1) := by decide +kernel
theorem dX10_cutNumber_79 : decode cX10_cutNumber 79 = .ok (.getfield 25, 3) := by decide +kernel
theorem dX10_cutNumber_82 : decode cX10_cutNumber 82 = .ok (.invokevirtual 48, 3) := by decide +kernel
theorem dX10_cutNumber_85 : decode cX10_cutNumber 85 = .ok (.goto 10, 3) := by decide +kernel
theorem dX10_cutNumber_88 : decode cX10_cutNumber 88 = .ok (.aload_n 0, 1) := by decide +kernel
theorem dX10_cutNumber_89 : decode cX10_cutNumber 89 = .ok (.iconst 3, 1) := by decide +kernel
theorem dX10_cutNumber_90 : decode cX10_cutNumber 90 = .ok (.iload_n 3, 1) := by decide +kernel
theorem dX10_cutNumber_91 : decode cX10_cutNumber 91 = .ok (.iload_n 2, 1) := by decide +kernel
theorem dX10_cutNumber_92 : decode cX10_cutNumber 92 = .ok (.invokevirtual 48, 3) := by decide +kernel
theorem dX10_cutNumber_95 : decode cX10_cutNumber 95 = .ok (.ireturn, 1) := by decide +kernel
theorem dX10_add_0 : decode cX10_add 0 = .ok (.aload_n 0, 1) := by decide +kernel
theorem dX10_add_1 : decode cX10_add 1 = .ok (.getfield 21, 3) := by decide +kernel
theorem dX10_add_4 : decode cX10_add 4 = .ok (.aload_n 0, 1) := by decide +kernel
theorem dX10_add_5 : decode cX10_add 5 = .ok (.getfield 9, 3) := by decide +kernel
theorem dX10_add_8 : decode cX10_add 8 = .ok (.arraylength, 1) := by decide +kernel
theorem dX10_add_9 : decode cX10_add 9 = .ok (.if_icmp .ge 43, 3) := by decide +kernel
theorem dX10_add_12 : decode cX10_add 12 = .ok (.aload_n 0, 1) := by decide +kernel
theorem dX10_add_13 : decode cX10_add 13 = .ok (.getfield 9, 3) := by decide +kernel
theorem dX10_add_16 : decode cX10_add 16 = .ok (.aload_n 0, 1) := by decide +kernel
theorem dX10_add_17 : decode cX10_add 17 = .ok (.getfield 21, 3) := by decide +kernel
theorem dX10_add_20 : decode cX10_add 20 = .ok (.iload_n 1, 1) := by decide +kernel
theorem dX10_add_21 : decode cX10_add 21 = .ok (.iastore, 1) := by decide +kernel
theorem dX10_add_22 : decode cX10_add 22 = .ok (.aload_n 0, 1) := by decide +kernel
theorem dX10_add_23 : decode cX10_add 23 = .ok (.getfield 15, 3) := by decide +kernel
theorem dX10_add_26 : decode cX10_add 26 = .ok (.aload_n 0, 1) := by decide +kernel
theorem dX10_add_27 : decode cX10_add 27 = .ok (.getfield 21, 3) := by decide +kernel
theorem dX10_add_30 : decode cX10_add 30 = .ok (.iload_n 2, 1) := by decide +kernel
theorem dX10_add_31 : decode cX10_add 31 = .ok (.iastore, 1) := by decide +kernel
theorem dX10_add_32 : decode cX10_add 32 = .ok (.aload_n 0, 1) := by decide +kernel
theorem dX10_add_33 : decode cX10_add 33 = .ok (.getfield 18, 3) := by decide +kernel
theorem dX10_add_36 : decode cX10_add 36 = .ok (.aload_n 0, 1) := by decide +kernel
theorem dX10_add_37 : decode cX10_add 37 = .ok (.getfield 21, 3) := by decide +kernel
theorem dX10_add_40 : decode cX10_add 40 = .ok (.iload_n 3, 1) := by decide +kernel
theorem dX10_add_41 : decode cX10_add 41 = .ok (.iastore, 1) := by decide +kernel
theorem dX10_add_42 : decode cX10_add 42 = .ok (.aload_n 0, 1) := by decide +kernel
theorem dX10_add_43 : decode cX10_add 43 = .ok (.dup, 1) := by decide +kernel
theorem dX10_add_44 : decode cX10_add 44 = .ok (.getfield 21, 3) := by decide +kernel
theorem dX10_add_47 : decode cX10_add 47 = .ok (.iconst 1, 1) := by decide +kernel
theorem dX10_add_48 : decode cX10_add 48 = .ok (.iadd, 1) := by decide +kernel
theorem dX10_add_49 : decode cX10_add 49 = .ok (.putfield 21, 3) := by decide +kernel
theorem dX10_add_52 : decode cX10_add 52 = .ok (.iload_n 1, 1) := by decide +kernel
theorem dX10_add_53 : decode cX10_add 53 = .ok (.ireturn, 1) := by decide +kernel
theorem dX10_isBlank_0 : decode cX10_isBlank 0 = .ok (.iload_n 0, 1) := by decide +kernel
theorem dX10_isBlank_1 : decode cX10_isBlank 1 = .ok (.bipush 32, 2) := by decide +kernel
theorem dX10_isBlank_3 : decode cX10_isBlank 3 = .ok (.if_icmp .eq 9, 3) := by decide +kernel
theorem dX10_isBlank_6 : decode cX10_isBlank 6 = .ok (.iload_n 0, 1) := by decide +kernel
theorem dX10_isBlank_7 : decode cX10_isBlank 7 = .ok (.bipush 10, 2) := by decide +kernel
theorem dX10_isBlank_9 : decode cX10_isBlank 9 = .ok (.if_icmp .ne 7, 3) := by decide +kernel
theorem dX10_isBlank_12 : decode cX10_isBlank 12 = .ok (.iconst 1, 1) := by decide +kernel
theorem dX10_isBlank_13 : decode cX10_isBlank 13 = .ok (.goto 4, 3) := by decide +kernel
theorem dX10_isBlank_16 : decode cX10_isBlank 16 = .ok (.iconst 0, 1) := by decide +kernel
theorem dX10_isBlank_17 : decode cX10_isBlank 17 = .ok (.ireturn, 1) := by decide +kernel
theorem dX10_isLetter_0 : decode cX10_isLetter 0 = .ok (.iload_n 0, 1) := by decide +kernel
theorem dX10_isLetter_1 : decode cX10_isLetter 1 = .ok (.bipush 97, 2) := by decide +kernel
theorem dX10_isLetter_3 : decode cX10_isLetter 3 = .ok (.if_icmp .lt 13, 3) := by decide +kernel
theorem dX10_isLetter_6 : decode cX10_isLetter 6 = .ok (.iload_n 0, 1) := by decide +kernel
theorem dX10_isLetter_7 : decode cX10_isLetter 7 = .ok (.bipush 122, 2) := by decide +kernel
theorem dX10_isLetter_9 : decode cX10_isLetter 9 = .ok (.if_icmp .gt 7, 3) := by decide +kernel
theorem dX10_isLetter_12 : decode cX10_isLetter 12 = .ok (.iconst 1, 1) := by decide +kernel
theorem dX10_isLetter_13 : decode cX10_isLetter 13 = .ok (.goto 4, 3) := by decide +kernel
theorem dX10_isLetter_16 : decode cX10_isLetter 16 = .ok (.iconst 0, 1) := by decide +kernel
theorem dX10_isLetter_17 : decode cX10_isLetter 17 = .ok (.ireturn, 1) := by decide +kernel
theorem dX10_isDigit_0 : decode cX10_isDigit 0 = .ok (.iload_n 0, 1) := by decide +kernel
theorem dX10_isDigit_1 : decode cX10_isDigit 1 = .ok (.bipush 48, 2) := by decide +kernel
theorem dX10_isDigit_3 : decode cX10_isDigit 3 = .ok (.if_icmp .lt 13, 3) := by decide +kernel
theorem dX10_isDigit_6 : decode cX10_isDigit 6 = .ok (.iload_n 0, 1) := by decide +kernel
theorem dX10_isDigit_7 : decode cX10_isDigit 7 = .ok (.bipush 57, 2) := by decide +kernel
theorem dX10_isDigit_9 : decode cX10_isDigit 9 = .ok (.if_icmp .gt 7, 3) := by decide +kernel
theorem dX10_isDigit_12 : decode cX10_isDigit 12 = .ok (.iconst 1, 1) := by decide +kernel
theorem dX10_isDigit_13 : decode cX10_isDigit 13 = .ok (.goto 4, 3) := by decide +kernel
theorem dX10_isDigit_16 : decode cX10_isDigit 16 = .ok (.iconst 0, 1) := by decide +kernel
theorem dX10_isDigit_17 : decode cX10_isDigit 17 = .ok (.ireturn, 1) := by decide +kernel
theorem dX11_init_0 : decode cX11_init 0 = .ok (.aload_n 0, 1) := by decide +kernel
theorem dX11_init_1 : decode cX11_init 1 = .ok (.invokespecial 1, 3) := by decide +kernel
theorem dX11_init_4 : decode cX11_init 4 = .ok (.aload_n 0, 1) := by decide +kernel
theorem dX11_init_5 : decode cX11_init 5 = .ok (.new 7, 3) := by decide +kernel
theorem dX11_init_8 : decode cX11_init 8 = .ok (.dup, 1) := by decide +kernel
theorem dX11_init_9 : decode cX11_init 9 = .ok (.invokespecial 9, 3) := by decide +kernel
theorem dX11_init_12 : decode cX11_init 12 = .ok (.putfield 10, 3) := by decide +kernel
theorem dX11_init_15 : decode cX11_init 15 = .ok (.aload_n 0, 1) := by decide +kernel
theorem dX11_init_16 : decode cX11_init 16 = .ok (.new 16, 3) := by decide +kernel
theorem dX11_init_19 : decode cX11_init 19 = .ok (.dup, 1) := by decide +kernel
theorem dX11_init_20 : decode cX11_init 20 = .ok (.invokespecial 18, 3) := by decide +kernel
theorem dX11_init_23 : decode cX11_init 23 = .ok (.putfield 19, 3) := by decide +kernel
theorem dX11_init_26 : decode cX11_init 26 = .ok (.aload_n 0, 1) := by decide +kernel
theorem dX11_init_27 : decode cX11_init 27 = .ok (.new 23, 3) := by decide +kernel
theorem dX11_init_30 : decode cX11_init 30 = .ok (.dup, 1) := by decide +kernel
theorem dX11_init_31 : decode cX11_init 31 = .ok (.invokespecial 25, 3) := by decide +kernel
theorem dX11_init_34 : decode cX11_init 34 = .ok (.putfield 26, 3) := by decide +kernel
theorem dX11_init_37 : decode cX11_init 37 = .ok (.aload_n 0, 1) := by decide +kernel
theorem dX11_init_38 : decode cX11_init 38 = .ok (.new 23, 3) := by decide +kernel
theorem dX11_init_41 : decode cX11_init 41 = .ok (.dup, 1) := by decide +kernel
theorem dX11_init_42 : decode cX11_init 42 = .ok (.invokespecial 25, 3) := by decide +kernel
theorem dX11_init_45 : decode cX11_init 45 = .ok (.putfield 30, 3) := by decide +kernel
theorem dX11_init_48 : decode cX11_init 48 = .ok (.aload_n 0, 1) := by decide +kernel
theorem dX11_init_49 : decode cX11_init 49 = .ok (.new 33, 3) := by decide +kernel
theorem dX11_init_52 : decode cX11_init 52 = .ok (.dup, 1) := by decide +kernel
theorem dX11_init_53 : decode cX11_init 53 = .ok (.invokespecial 35, 3) := by decide +kernel
theorem dX11_init_56 : decode cX11_init 56 = .ok (.putfield 36, 3) := by decide +kernel
theorem dX11_init_59 : decode cX11_init 59 = .ok (.aload_n 0, 1) := by decide +kernel
theorem dX11_init_60 : decode cX11_init 60 = .ok (.new 40, 3) := by decide +kernel
theorem dX11_init_63 : decode cX11_init 63 = .ok (.dup, 1) := by decide +kernel
theorem dX11_init_64 : decode cX11_init 64 = .ok (.invokespecial 42, 3) := by decide +kernel
theorem dX11_init_67 : decode cX11_init 67 = .ok (.putfield 43, 3) := by decide +kernel
theorem dX11_init_70 : decode cX11_init 70 = .ok (.aload_n 0, 1) := by decide +kernel
theorem dX11_init_71 : decode cX11_init 71 = .ok (.bipush 6, 2) := by decide +kernel
theorem dX11_init_73 : decode cX11_init 73 = .ok (.newarray .int, 2) := by decide +kernel
theorem dX11_init_75 : decode cX11_init 75 = .ok (.putfield 47, 3) := by decide +kernel
theorem dX11_init_78 : decode cX11_init 78 = .ok (.aload_n 0, 1) := by decide +kernel
theorem dX11_init_79 : decode cX11_init 79 = .ok (.bipush 6, 2) := by decide +kernel
theorem dX11_init_81 : decode cX11_init 81 = .ok (.newarray .int, 2) := by decide +kernel
theorem dX11_init_83 : decode cX11_init 83 = .ok (.putfield 51, 3) := by decide +kernel
theorem dX11_init_86 : decode cX11_init 86 = .ok (.aload_n 0, 1) := by decide +kernel
theorem dX11_init_87 : decode cX11_init 87 = .ok (.new 54, 3) := by decide +kernel
theorem dX11_init_90 : decode cX11_init 90 = .ok (.dup, 1) := by decide +kernel
theorem dX11_init_91 : decode cX11_init 91 = .ok (.invokespecial 56, 3) := by decide +kernel
theorem dX11_init_94 : decode cX11_init 94 = .ok (.putfield 57, 3) := by decide +kernel
theorem dX11_init_97 : decode cX11_init 97 = .ok (.aload_n 0, 1) := by decide +kernel
theorem dX11_init_98 : decode cX11_init 98 = .ok (.new 54, 3) := by decide +kernel
theorem dX11_init_101 : decode cX11_init 101 = .ok (.dup, 1) := by decide +kernel
theorem dX11_init_102 : decode cX11_init 102 = .ok (.invokespecial 56, 3) := by decide +kernel
theorem dX11_init_105 : decode cX11_init 105 = .ok (.putfield 61, 3) := by decide +kernel
theorem dX11_init_108 : decode cX11_init 108 = .ok (.aload_n 0, 1) := by decide +kernel
theorem dX11_init_109 : decode cX11_init 109 = .ok (.iconst 0, 1) := by decide +kernel
theorem dX11_init_110 : decode cX11_init 110 = .ok (.putfield 64, 3) := by decide +kernel
theorem dX11_init_113 : decode cX11_init 113 = .ok (.aload_n 0, 1) := by decide +kernel
theorem dX11_init_114 : decode cX11_init 114 = .ok (.iconst (-1), 1) := by decide +kernel
theorem dX11_init_115 : decode cX11_init 115 = .ok (.putfield 68, 3) := by decide +kernel
theorem dX11_init_118 : decode cX11_init 118 = .ok (.aload_n 0, 1) := by decide +kernel
theorem dX11_init_119 : decode cX11_init 119 = .ok (.iconst 1, 1) := by decide +kernel
theorem dX11_init_120 : decode cX11_init 120 = .ok (.putfield 71, 3) := by decide +kernel
theorem dX11_init_123 : decode cX11_init 123 = .ok (.aload_n 0, 1) := by decide +kernel
theorem dX11_init_124 : decode cX11_init 124 = .ok (.new 74, 3) := by decide +kernel
theorem dX11_init_127 : decode cX11_init 127 = .ok (.dup, 1) := by decide +kernel
theorem dX11_init_128 : decode cX11_init 128 = .ok (.aload_n 0, 1) := by decide +kernel
theorem dX11_init_129 : decode cX11_init 129 = .ok (.getfield 10, 3) := by decide +kernel
theorem dX11_init_132 : decode cX11_init 132 = .ok (.aload_n 0, 1) := by decide +kernel
theorem dX11_init_133 : decode cX11_init 133 = .ok (.getfield 61, 3) := by decide +kernel
theorem dX11_init_136 : decode cX11_init 136 = .ok (.invokespecial 76, 3) := by decide +kernel
theorem dX11_init_139 : decode cX11_init 139 = .ok (.putfield 79, 3) := by decide +kernel
theorem dX11_init_142 : decode cX11_init 142 = .ok (.aload_n 0, 1) := by decide +kernel
theorem dX11_init_143 : decode cX11_init 143 = .ok (.new 83, 3) := by decide +kernel
theorem dX11_init_146 : decode cX11_init 146 = .ok (.dup, 1) := by decide +kernel
theorem dX11_init_147 : decode cX11_init 147 = .ok (.aload_n 0, 1) := by decide +kernel
theorem dX11_init_148 : decode cX11_init 148 = .ok (.getfield 19, 3) := by decide +kernel
theorem dX11_init_151 : decode cX11_init 151 = .ok (.aload_n 0, 1) := by decide +kernel
theorem dX11_init_152 : decode cX11_init 152 = .ok (.getfield 57, 3) := by decide +kernel
theorem dX11_init_155 : decode cX11_init 155 = .ok (.aload_n 0, 1) := by decide +kernel
theorem dX11_init_156 : decode cX11_init 156 = .ok (.getfield 26, 3) := by decide +kernel
theorem dX11_init_159 : decode cX11_init 159 = .ok (.invokespecial 85, 3) := by decide +kernel
theorem dX11_init_162 : decode cX11_init 162 = .ok (.putfield 88, 3) := by decide +kernel
theorem dX11_init_165 : decode cX11_init 165 = .ok (.aload_n 0, 1) := by decide +kernel
theorem dX11_init_166 : decode cX11_init 166 = .ok (.new 92, 3) := by decide +kernel
theorem dX11_init_169 : decode cX11_init 169 = .ok (.dup, 1) := by decide +kernel
theorem dX11_init_170 : decode cX11_init 170 = .ok (.aload_n 0, 1) := by decide +kernel
theorem dX11_init_171 : decode cX11_init 171 = .ok (.getfield 88, 3) := by decide +kernel
theorem dX11_init_174 : decode cX11_init 174 = .ok (.aload_n 0, 1) := by decide +kernel
theorem dX11_init_175 : decode cX11_init 175 = .ok (.getfield 19, 3) := by decide +kernel
theorem dX11_init_178 : decode cX11_init 178 = .ok (.invokespecial 94, 3) := by decide +kernel
theorem dX11_init_181 : decode cX11_init 181 = .ok (.putfield 97, 3) := by decide +kernel
theorem dX11_init_184 : decode cX11_init 184 = .ok (.aload_n 0, 1) := by decide +kernel
theorem dX11_init_185 : decode cX11_init 185 = .ok (.new 101, 3) := by decide +kernel
theorem dX11_init_188 : decode cX11_init 188 = .ok (.dup, 1) := by decide +kernel
theorem dX11_init_189 : decode cX11_init 189 = .ok (.aload_n 0, 1) := by decide +kernel
theorem dX11_init_190 : decode cX11_init 190 = .ok (.getfield 88, 3) := by decide +kernel
theorem dX11_init_193 : decode cX11_init 193 = .ok (.aload_n 0, 1) := by decide +kernel
theorem dX11_init_194 : decode cX11_init 194 = .ok (.getfield 97, 3) := by decide +kernel
theorem dX11_init_197 : decode cX11_init 197 = .ok (.invokespecial 103, 3) := by decide +kernel
theorem dX11_init_200 : decode cX11_init 200 = .ok (.putfield 106, 3) := by decide +kernel
theorem dX11_init_203 : decode cX11_init 203 = .ok (.aload_n 0, 1) := by decide +kernel
theorem dX11_init_204 : decode cX11_init 204 = .ok (.getfield 26, 3) := by decide +kernel
theorem dX11_init_207 : decode cX11_init 207 = .ok (.aload_n 0, 1) := by decide +kernel
theorem dX11_init_208 : decode cX11_init 208 = .ok (.getfield 57, 3) := by decide +kernel
theorem dX11_init_211 : decode cX11_init 211 = .ok (.invokevirtual 110, 3) := by decide +kernel
theorem dX11_init_214 : decode cX11_init 214 = .ok (.return_, 1) := by decide +kernel
theorem dX11_feed_0 : decode cX11_feed 0 = .ok (.aload_n 0, 1) := by decide +kernel
theorem dX11_feed_1 : decode cX11_feed 1 = .ok (.getfield 10, 3) := by decide +kernel
theorem dX11_feed_4 : decode cX11_feed 4 = .ok (.getfield 114, 3) := by decide +kernel
theorem dX11_feed_7 : decode cX11_feed 7 = .ok (.bipush 20, 2) := by decide +kernel
theorem dX11_feed_9 : decode cX11_feed 9 = .ok (.iadd, 1) := by decide +kernel
theorem dX11_feed_10 : decode cX11_feed 10 = .ok (.sipush 1600, 3) := by decide +kernel
theorem dX11_feed_13 : decode cX11_feed 13 = .ok (.if_icmp .le 9, 3) := by decide +kernel
theorem dX11_feed_16 : decode cX11_feed 16 = .ok (.aload_n 0, 1) := by decide +kernel
theorem dX11_feed_17 : decode cX11_feed 17 = .ok (.iconst 0, 1) := by decide +kernel
theorem dX11_feed_18 : decode cX11_feed 18 = .ok (.invokevirtual 117, 3) := by decide +kernel
theorem dX11_feed_21 : decode cX11_feed 21 = .ok (.ireturn, 1) := by decide +kernel
theorem dX11_feed_22 : decode cX11_feed 22 = .ok (.aload_n 0, 1) := by decide +kernel
theorem dX11_feed_23 : decode cX11_feed 23 = .ok (.getfield 10, 3) := by decide +kernel
theorem dX11_feed_26 : decode cX11_feed 26 = .ok (.iload_n 1, 1) := by decide +kernel
theorem dX11_feed_27 : decode cX11_feed 27 = .ok (.invokevirtual 121, 3) := by decide +kernel
theorem dX11_feed_30 : decode cX11_feed 30 = .ok (.aload_n 0, 1) := by decide +kernel
theorem dX11_feed_31 : decode cX11_feed 31 = .ok (.getfield 10, 3) := by decide +kernel
theorem dX11_feed_34 : decode cX11_feed 34 = .ok (.iload_n 2, 1) := by decide +kernel
theorem dX11_feed_35 : decode cX11_feed 35 = .ok (.invokevirtual 121, 3) := by decide +kernel
theorem dX11_feed_38 : decode cX11_feed 38 = .ok (.aload_n 0, 1) := by decide +kernel
theorem dX11_feed_39 : decode cX11_feed 39 = .ok (.getfield 10, 3) := by decide +kernel
theorem dX11_feed_42 : decode cX11_feed 42 = .ok (.iload_n 3, 1) := by decide +kernel
theorem dX11_feed_43 : decode cX11_feed 43 = .ok (.invokevirtual 121, 3) := by decide +kernel
theorem dX11_feed_46 : decode cX11_feed 46 = .ok (.aload_n 0, 1) := by decide +kernel
theorem dX11_feed_47 : decode cX11_feed 47 = .ok (.getfield 10, 3) := by decide +kernel
theorem dX11_feed_50 : decode cX11_feed 50 = .ok (.iload 4, 2) := by decide +kernel
theorem dX11_feed_52 : decode cX11_feed 52 = .ok (.invokevirtual 121, 3) := by decide +kernel
theorem dX11_feed_55 : decode cX11_feed 55 = .ok (.aload_n 0, 1) := by decide +kernel
theorem dX11_feed_56 : decode cX11_feed 56 = .ok (.getfield 10, 3) := by decide +kernel
theorem dX11_feed_59 : decode cX11_feed 59 = .ok (.iload 5, 2) := by decide +kernel
theorem dX11_feed_61 : decode cX11_feed 61 = .ok (.invokevirtual 121, 3) := by decide +kernel
theorem dX11_feed_64 : decode cX11_feed 64 = .ok (.aload_n 0, 1) := by decide +kernel
theorem dX11_feed_65 : decode cX11_feed 65 = .ok (.getfield 10, 3) := by decide +kernel
theorem dX11_feed_68 : decode cX11_feed 68 = .ok (.getfield 114, 3) := by decide +kernel
theorem dX11_feed_71 : decode cX11_feed 71 = .ok (.ireturn, 1) := by decide +kernel
theorem dX11_end_0 : decode cX11_end 0 = .ok (.iload_n 1, 1) := by decide +kernel
theorem dX11_end_1 : decode cX11_end 1 = .ok (.ifCond .lt 14, 3) := by decide +kernel
theorem dX11_end_4 : decode cX11_end 4 = .ok (.iload_n 1, 1) := by decide +kernel
theorem dX11_end_5 : decode cX11_end 5 = .ok (.aload_n 0, 1) := by decide +kernel
theorem dX11_end_6 : decode cX11_end 6 = .ok (.getfield 10, 3) := by decide +kernel
theorem dX11_end_9 : decode cX11_end 9 = .ok (.getfield 114, 3) := by decide +kernel
theorem dX11_end_12 : decode cX11_end 12 = .ok (.if_icmp .le 9, 3) := by decide +kernel
theorem dX11_end_15 : decode cX11_end 15 = .ok (.aload_n 0, 1) := by decide +kernel
theorem dX11_end_16 : decode cX11_end 16 = .ok (.iconst 0, 1) := by decide +kernel
theorem dX11_end_17 : decode cX11_end 17 = .ok (.invokevirtual 125, 3) := by decide +kernel
theorem dX11_end_20 : decode cX11_end 20 = .ok (.ireturn, 1) := by decide +kernel
theorem dX11_end_21 : decode cX11_end 21 = .ok (.aload_n 0, 1) := by decide +kernel
theorem dX11_end_22 : decode cX11_end 22 = .ok (.getfield 10, 3) := by decide +kernel
theorem dX11_end_25 : decode cX11_end 25 = .ok (.iload_n 1, 1) := by decide +kernel
theorem dX11_end_26 : decode cX11_end 26 = .ok (.putfield 114, 3) := by decide +kernel
theorem dX11_end_29 : decode cX11_end 29 = .ok (.iconst 1, 1) := by decide +kernel
theorem dX11_end_30 : decode cX11_end 30 = .ok (.ireturn, 1) := by decide +kernel
theorem dX11_land_0 : decode cX11_land 0 = .ok (.aload_n 0, 1) := by decide +kernel
theorem dX11_land_1 : decode cX11_land 1 = .ok (.getfield 79, 3) := by decide +kernel
theorem dX11_land_4 : decode cX11_land 4 = .ok (.aload_n 0, 1) := by decide +kernel
theorem dX11_land_5 : decode cX11_land 5 = .ok (.getfield 61, 3) := by decide +kernel
theorem dX11_land_8 : decode cX11_land 8 = .ok (.invokevirtual 129, 3) := by decide +kernel
theorem dX11_land_11 : decode cX11_land 11 = .ok (.istore_n 1, 1) := by decide +kernel
theorem dX11_land_12 : decode cX11_land 12 = .ok (.aload_n 0, 1) := by decide +kernel
theorem dX11_land_13 : decode cX11_land 13 = .ok (.getfield 10, 3) := by decide +kernel
theorem dX11_land_16 : decode cX11_land 16 = .ok (.iconst 0, 1) := by decide +kernel
theorem dX11_land_17 : decode cX11_land 17 = .ok (.putfield 114, 3) := by decide +kernel
theorem dX11_land_20 : decode cX11_land 20 = .ok (.aload_n 0, 1) := by decide +kernel
theorem dX11_land_21 : decode cX11_land 21 = .ok (.aload_n 0, 1) := by decide +kernel
theorem dX11_land_22 : decode cX11_land 22 = .ok (.getfield 79, 3) := by decide +kernel
theorem dX11_land_25 : decode cX11_land 25 = .ok (.getfield 133, 3) := by decide +kernel
theorem dX11_land_28 : decode cX11_land 28 = .ok (.putfield 64, 3) := by decide +kernel
theorem dX11_land_31 : decode cX11_land 31 = .ok (.aload_n 0, 1) := by decide +kernel
theorem dX11_land_32 : decode cX11_land 32 = .ok (.aload_n 0, 1) := by decide +kernel
theorem dX11_land_33 : decode cX11_land 33 = .ok (.getfield 79, 3) := by decide +kernel
theorem dX11_land_36 : decode cX11_land 36 = .ok (.getfield 136, 3) := by decide +kernel
theorem dX11_land_39 : decode cX11_land 39 = .ok (.putfield 68, 3) := by decide +kernel
theorem dX11_land_42 : decode cX11_land 42 = .ok (.aload_n 0, 1) := by decide +kernel
theorem dX11_land_43 : decode cX11_land 43 = .ok (.getfield 64, 3) := by decide +kernel
theorem dX11_land_46 : decode cX11_land 46 = .ok (.ifCond .eq 9, 3) := by decide +kernel
theorem dX11_land_49 : decode cX11_land 49 = .ok (.aload_n 0, 1) := by decide +kernel
theorem dX11_land_50 : decode cX11_land 50 = .ok (.iconst 1, 1) := by decide +kernel
theorem dX11_land_51 : decode cX11_land 51 = .ok (.invokevirtual 117, 3) := by decide +kernel
theorem dX11_land_54 : decode cX11_land 54 = .ok (.ireturn, 1) := by decide +kernel
theorem dX11_land_55 : decode cX11_land 55 = .ok (.aload_n 0, 1) := by decide +kernel
theorem dX11_land_56 : decode cX11_land 56 = .ok (.getfield 61, 3) := by decide +kernel
theorem dX11_land_59 : decode cX11_land 59 = .ok (.astore_n 2, 1) := by decide +kernel
theorem dX11_land_60 : decode cX11_land 60 = .ok (.aload_n 0, 1) := by decide +kernel
theorem dX11_land_61 : decode cX11_land 61 = .ok (.aload_n 0, 1) := by decide +kernel
theorem dX11_land_62 : decode cX11_land 62 = .ok (.getfield 57, 3) := by decide +kernel
theorem dX11_land_65 : decode cX11_land 65 = .ok (.putfield 61, 3) := by decide +kernel
theorem dX11_land_68 : decode cX11_land 68 = .ok (.aload_n 0, 1) := by decide +kernel
theorem dX11_land_69 : decode cX11_land 69 = .ok (.aload_n 2, 1) := by decide +kernel
theorem dX11_land_70 : decode cX11_land 70 = .ok (.putfield 57, 3) := by decide +kernel
theorem dX11_land_73 : decode cX11_land 73 = .ok (.aload_n 0, 1) := by decide +kernel
theorem dX11_land_74 : decode cX11_land 74 = .ok (.getfield 26, 3) := by decide +kernel
theorem dX11_land_77 : decode cX11_land 77 = .ok (.aload_n 0, 1) := by decide +kernel
theorem dX11_land_78 : decode cX11_land 78 = .ok (.getfield 57, 3) := by decide +kernel
theorem dX11_land_81 : decode cX11_land 81 = .ok (.invokevirtual 110, 3) := by decide +kernel
theorem dX11_land_84 : decode cX11_land 84 = .ok (.aload_n 0, 1) := by decide +kernel
theorem dX11_land_85 : decode cX11_land 85 = .ok (.getfield 36, 3) := by decide +kernel
theorem dX11_land_88 : decode cX11_land 88 = .ok (.iconst 0, 1) := by decide +kernel
theorem dX11_land_89 : decode cX11_land 89 = .ok (.putfield 139, 3) := by decide +kernel
theorem dX11_land_92 : decode cX11_land 92 = .ok (.aload_n 0, 1) := by decide +kernel
theorem dX11_land_93 : decode cX11_land 93 = .ok (.getfield 106, 3) := by decide +kernel
theorem dX11_land_96 : decode cX11_land 96 = .ok (.iconst 0, 1) := by decide +kernel
theorem dX11_land_97 : decode cX11_land 97 = .ok (.putfield 142, 3) := by decide +kernel
theorem dX11_land_100 : decode cX11_land 100 = .ok (.iload_n 1, 1) := by decide +kernel
theorem dX11_land_101 : decode cX11_land 101 = .ok (.ireturn, 1) := by decide +kernel
theorem dX11_fault_0 : decode cX11_fault 0 = .ok (.iload_n 1, 1) := by decide +kernel
theorem dX11_fault_1 : decode cX11_fault 1 = .ok (.ifCond .ne 10, 3) := by decide +kernel
theorem dX11_fault_4 : decode cX11_fault 4 = .ok (.aload_n 0, 1) := by decide +kernel
theorem dX11_fault_5 : decode cX11_fault 5 = .ok (.getfield 64, 3) := by decide +kernel
theorem dX11_fault_8 : decode cX11_fault 8 = .ok (.goto 16, 3) := by decide +kernel
theorem dX11_fault_11 : decode cX11_fault 11 = .ok (.iload_n 1, 1) := by decide +kernel
theorem dX11_fault_12 : decode cX11_fault 12 = .ok (.iconst 1, 1) := by decide +kernel
theorem dX11_fault_13 : decode cX11_fault 13 = .ok (.if_icmp .ne 10, 3) := by decide +kernel
theorem dX11_fault_16 : decode cX11_fault 16 = .ok (.aload_n 0, 1) := by decide +kernel
theorem dX11_fault_17 : decode cX11_fault 17 = .ok (.getfield 68, 3) := by decide +kernel
theorem dX11_fault_20 : decode cX11_fault 20 = .ok (.goto 4, 3) := by decide +kernel
theorem dX11_fault_23 : decode cX11_fault 23 = .ok (.iconst (-1), 1) := by decide +kernel
theorem dX11_fault_24 : decode cX11_fault 24 = .ok (.ireturn, 1) := by decide +kernel
theorem dX11_has_0 : decode cX11_has 0 = .ok (.iload_n 1, 1) := by decide +kernel
theorem dX11_has_1 : decode cX11_has 1 = .ok (.tableswitch 147 0 10 #[59, 59, 59, 69, 77, 85, 103, 118, 126, 134, 142], 59) := by decide +kernel
theorem dX11_has_60 : decode cX11_has 60 = .ok (.aload_n 0, 1) := by decide +kernel
theorem dX11_has_61 : decode cX11_has 61 = .ok (.getfield 57, 3) := by decide +kernel
theorem dX11_has_64 : decode cX11_has 64 = .ok (.getfield 145, 3) := by decide +kernel
theorem dX11_has_67 : decode cX11_has 67 = .ok (.iload_n 1, 1) := by decide +kernel
theorem dX11_has_68 : decode cX11_has 68 = .ok (.iaload, 1) := by decide +kernel
theorem dX11_has_69 : decode cX11_has 69 = .ok (.ireturn, 1) := by decide +kernel
theorem dX11_has_70 : decode cX11_has 70 = .ok (.aload_n 0, 1) := by decide +kernel
theorem dX11_has_71 : decode cX11_has 71 = .ok (.getfield 26, 3) := by decide +kernel
theorem dX11_has_74 : decode cX11_has 74 = .ok (.getfield 147, 3) := by decide +kernel
theorem dX11_has_77 : decode cX11_has 77 = .ok (.ireturn, 1) := by decide +kernel
theorem dX11_has_78 : decode cX11_has 78 = .ok (.aload_n 0, 1) := by decide +kernel
theorem dX11_has_79 : decode cX11_has 79 = .ok (.getfield 26, 3) := by decide +kernel
theorem dX11_has_82 : decode cX11_has 82 = .ok (.getfield 150, 3) := by decide +kernel
theorem dX11_has_85 : decode cX11_has 85 = .ok (.ireturn, 1) := by decide +kernel
theorem dX11_has_86 : decode cX11_has 86 = .ok (.aload_n 0, 1) := by decide +kernel
theorem dX11_has_87 : decode cX11_has 87 = .ok (.getfield 26, 3) := by decide +kernel
theorem dX11_has_90 : decode cX11_has 90 = .ok (.aload_n 0, 1) := by decide +kernel
theorem dX11_has_91 : decode cX11_has 91 = .ok (.getfield 57, 3) := by decide +kernel
theorem dX11_has_94 : decode cX11_has 94 = .ok (.getfield 145, 3) := by decide +kernel
theorem dX11_has_97 : decode cX11_has 97 = .ok (.iconst 2, 1) := by decide +kernel
theorem dX11_has_98 : decode cX11_has 98 = .ok (.iaload, 1) := by decide +kernel
theorem dX11_has_99 : decode cX11_has 99 = .ok (.iconst (-1), 1) := by decide +kernel
theorem dX11_has_100 : decode cX11_has 100 = .ok (.invokevirtual 153, 3) := by decide +kernel
theorem dX11_has_103 : decode cX11_has 103 = .ok (.ireturn, 1) := by decide +kernel
theorem dX11_has_104 : decode cX11_has 104 = .ok (.aload_n 0, 1) := by decide +kernel
theorem dX11_has_105 : decode cX11_has 105 = .ok (.getfield 57, 3) := by decide +kernel
theorem dX11_has_108 : decode cX11_has 108 = .ok (.aload_n 0, 1) := by decide +kernel
theorem dX11_has_109 : decode cX11_has 109 = .ok (.getfield 26, 3) := by decide +kernel
theorem dX11_has_112 : decode cX11_has 112 = .ok (.getfield 157, 3) := by decide +kernel
theorem dX11_has_115 : decode cX11_has 115 = .ok (.invokevirtual 160, 3) := by decide +kernel
theorem dX11_has_118 : decode cX11_has 118 = .ok (.ireturn, 1) := by decide +kernel
theorem dX11_has_119 : decode cX11_has 119 = .ok (.aload_n 0, 1) := by decide +kernel
theorem dX11_has_120 : decode cX11_has 120 = .ok (.getfield 26, 3) := by decide +kernel
theorem dX11_has_123 : decode cX11_has 123 = .ok (.getfield 164, 3) := by decide +kernel
theorem dX11_has_126 : decode cX11_has 126 = .ok (.ireturn, 1) := by decide +kernel
theorem dX11_has_127 : decode cX11_has 127 = .ok (.aload_n 0, 1) := by decide +kernel
theorem dX11_has_128 : decode cX11_has 128 = .ok (.getfield 106, 3) := by decide +kernel
theorem dX11_has_131 : decode cX11_has 131 = .ok (.getfield 142, 3) := by decide +kernel
theorem dX11_has_134 : decode cX11_has 134 = .ok (.ireturn, 1) := by decide +kernel
theorem dX11_has_135 : decode cX11_has 135 = .ok (.aload_n 0, 1) := by decide +kernel
theorem dX11_has_136 : decode cX11_has 136 = .ok (.getfield 36, 3) := by decide +kernel
theorem dX11_has_139 : decode cX11_has 139 = .ok (.getfield 139, 3) := by decide +kernel
theorem dX11_has_142 : decode cX11_has 142 = .ok (.ireturn, 1) := by decide +kernel
theorem dX11_has_143 : decode cX11_has 143 = .ok (.aload_n 0, 1) := by decide +kernel
theorem dX11_has_144 : decode cX11_has 144 = .ok (.getfield 71, 3) := by decide +kernel
theorem dX11_has_147 : decode cX11_has 147 = .ok (.ireturn, 1) := by decide +kernel
theorem dX11_has_148 : decode cX11_has 148 = .ok (.iconst (-1), 1) := by decide +kernel
theorem dX11_has_149 : decode cX11_has 149 = .ok (.ireturn, 1) := by decide +kernel
theorem dX11_letter_0 : decode cX11_letter 0 = .ok (.aload_n 0, 1) := by decide +kernel
theorem dX11_letter_1 : decode cX11_letter 1 = .ok (.getfield 57, 3) := by decide +kernel
theorem dX11_letter_4 : decode cX11_letter 4 = .ok (.iload_n 1, 1) := by decide +kernel
theorem dX11_letter_5 : decode cX11_letter 5 = .ok (.iload_n 2, 1) := by decide +kernel
theorem dX11_letter_6 : decode cX11_letter 6 = .ok (.invokevirtual 167, 3) := by decide +kernel
theorem dX11_letter_9 : decode cX11_letter 9 = .ok (.ifCond .eq 12, 3) := by decide +kernel
theorem dX11_letter_12 : decode cX11_letter 12 = .ok (.iload_n 3, 1) := by decide +kernel
theorem dX11_letter_13 : decode cX11_letter 13 = .ok (.ifCond .lt 8, 3) := by decide +kernel
theorem dX11_letter_16 : decode cX11_letter 16 = .ok (.iload_n 3, 1) := by decide +kernel
theorem dX11_letter_17 : decode cX11_letter 17 = .ok (.iconst 5, 1) := by decide +kernel
theorem dX11_letter_18 : decode cX11_letter 18 = .ok (.if_icmp .le 5, 3) := by decide +kernel
theorem dX11_letter_21 : decode cX11_letter 21 = .ok (.iconst (-1), 1) := by decide +kernel
theorem dX11_letter_22 : decode cX11_letter 22 = .ok (.ireturn, 1) := by decide +kernel
theorem dX11_letter_23 : decode cX11_letter 23 = .ok (.aload_n 0, 1) := by decide +kernel
theorem dX11_letter_24 : decode cX11_letter 24 = .ok (.getfield 57, 3) := by decide +kernel
theorem dX11_letter_27 : decode cX11_letter 27 = .ok (.iload_n 1, 1) := by decide +kernel
theorem dX11_letter_28 : decode cX11_letter 28 = .ok (.iload_n 2, 1) := by decide +kernel
theorem dX11_letter_29 : decode cX11_letter 29 = .ok (.iload_n 3, 1) := by decide +kernel
theorem dX11_letter_30 : decode cX11_letter 30 = .ok (.invokevirtual 171, 3) := by decide +kernel
theorem dX11_letter_33 : decode cX11_letter 33 = .ok (.ireturn, 1) := by decide +kernel
theorem dX11_blind_0 : decode cX11_blind 0 = .ok (.aload_n 0, 1) := by decide +kernel
theorem dX11_blind_1 : decode cX11_blind 1 = .ok (.getfield 57, 3) := by decide +kernel
theorem dX11_blind_4 : decode cX11_blind 4 = .ok (.iconst 0, 1) := by decide +kernel
theorem dX11_blind_5 : decode cX11_blind 5 = .ok (.iload_n 1, 1) := by decide +kernel
theorem dX11_blind_6 : decode cX11_blind 6 = .ok (.invokevirtual 167, 3) := by decide +kernel
theorem dX11_blind_9 : decode cX11_blind 9 = .ok (.ifCond .ne 5, 3) := by decide +kernel
theorem dX11_blind_12 : decode cX11_blind 12 = .ok (.iconst (-1), 1) := by decide +kernel
theorem dX11_blind_13 : decode cX11_blind 13 = .ok (.ireturn, 1) := by decide +kernel
theorem dX11_blind_14 : decode cX11_blind 14 = .ok (.iload_n 2, 1) := by decide +kernel
theorem dX11_blind_15 : decode cX11_blind 15 = .ok (.tableswitch 122 0 6 #[41, 41, 41, 52, 61, 71, 89], 41) := by decide +kernel
theorem dX11_blind_56 : decode cX11_blind 56 = .ok (.aload_n 0, 1) := by decide +kernel
theorem dX11_blind_57 : decode cX11_blind 57 = .ok (.getfield 57, 3) := by decide +kernel
theorem dX11_blind_60 : decode cX11_blind 60 = .ok (.iconst 0, 1) := by decide +kernel
theorem dX11_blind_61 : decode cX11_blind 61 = .ok (.iload_n 1, 1) := by decide +kernel
theorem dX11_blind_62 : decode cX11_blind 62 = .ok (.iload_n 2, 1) := by decide +kernel
theorem dX11_blind_63 : decode cX11_blind 63 = .ok (.invokevirtual 175, 3) := by decide +kernel
theorem dX11_blind_66 : decode cX11_blind 66 = .ok (.ireturn, 1) := by decide +kernel
theorem dX11_blind_67 : decode cX11_blind 67 = .ok (.aload_n 0, 1) := by decide +kernel
theorem dX11_blind_68 : decode cX11_blind 68 = .ok (.getfield 57, 3) := by decide +kernel
theorem dX11_blind_71 : decode cX11_blind 71 = .ok (.iload_n 1, 1) := by decide +kernel
theorem dX11_blind_72 : decode cX11_blind 72 = .ok (.invokevirtual 178, 3) := by decide +kernel
theorem dX11_blind_75 : decode cX11_blind 75 = .ok (.ireturn, 1) := by decide +kernel
theorem dX11_blind_76 : decode cX11_blind 76 = .ok (.aload_n 0, 1) := by decide +kernel
theorem dX11_blind_77 : decode cX11_blind 77 = .ok (.getfield 26, 3) := by decide +kernel
theorem dX11_blind_80 : decode cX11_blind 80 = .ok (.getfield 181, 3) := by decide +kernel
theorem dX11_blind_83 : decode cX11_blind 83 = .ok (.iload_n 1, 1) := by decide +kernel
theorem dX11_blind_84 : decode cX11_blind 84 = .ok (.iaload, 1) := by decide +kernel
theorem dX11_blind_85 : decode cX11_blind 85 = .ok (.ireturn, 1) := by decide +kernel
theorem dX11_blind_86 : decode cX11_blind 86 = .ok (.aload_n 0, 1) := by decide +kernel
theorem dX11_blind_87 : decode cX11_blind 87 = .ok (.getfield 26, 3) := by decide +kernel
theorem dX11_blind_90 : decode cX11_blind 90 = .ok (.iload_n 1, 1) := by decide +kernel
theorem dX11_blind_91 : decode cX11_blind 91 = .ok (.aload_n 0, 1) := by decide +kernel
theorem dX11_blind_92 : decode cX11_blind 92 = .ok (.getfield 57, 3) := by decide +kernel
theorem dX11_blind_95 : decode cX11_blind 95 = .ok (.getfield 145, 3) := by decide +kernel
theorem dX11_blind_98 : decode cX11_blind 98 = .ok (.iconst 0, 1) := by decide +kernel
theorem dX11_blind_99 : decode cX11_blind 99 = .ok (.iaload, 1) := by decide +kernel
theorem dX11_blind_100 : decode cX11_blind 100 = .ok (.invokevirtual 184, 3) := by decide +kernel
theorem dX11_blind_103 : decode cX11_blind 103 = .ok (.ireturn, 1) := by decide +kernel
theorem dX11_blind_104 : decode cX11_blind 104 = .ok (.aload_n 0, 1) := by decide +kernel
theorem dX11_blind_105 : decode cX11_blind 105 = .ok (.getfield 88, 3) := by decide +kernel
theorem dX11_blind_108 : decode cX11_blind 108 = .ok (.aload_n 0, 1) := by decide +kernel
theorem dX11_blind_109 : decode cX11_blind 109 = .ok (.getfield 57, 3) := by decide +kernel
theorem dX11_blind_112 : decode cX11_blind 112 = .ok (.aload_n 0, 1) := by decide +kernel
theorem dX11_blind_113 : decode cX11_blind 113 = .ok (.getfield 26, 3) := by decide +kernel
theorem dX11_blind_116 : decode cX11_blind 116 = .ok (.iconst 0, 1) := by decide +kernel
theorem dX11_blind_117 : decode cX11_blind 117 = .ok (.invokevirtual 187, 3) := by decide +kernel
theorem dX11_blind_120 : decode cX11_blind 120 = .ok (.aload_n 0, 1) := by decide +kernel
theorem dX11_blind_121 : decode cX11_blind 121 = .ok (.getfield 88, 3) := by decide +kernel
theorem dX11_blind_124 : decode cX11_blind 124 = .ok (.iload_n 1, 1) := by decide +kernel
theorem dX11_blind_125 : decode cX11_blind 125 = .ok (.invokevirtual 191, 3) := by decide +kernel
theorem dX11_blind_128 : decode cX11_blind 128 = .ok (.ifCond .eq 7, 3) := by decide +kernel
theorem dX11_blind_131 : decode cX11_blind 131 = .ok (.iconst 1, 1) := by decide +kernel
theorem dX11_blind_132 : decode cX11_blind 132 = .ok (.goto 4, 3) := by decide +kernel
theorem dX11_blind_135 : decode cX11_blind 135 = .ok (.iconst 0, 1) := by decide +kernel
theorem dX11_blind_136 : decode cX11_blind 136 = .ok (.ireturn, 1) := by decide +kernel
theorem dX11_blind_137 : decode cX11_blind 137 = .ok (.iconst (-1), 1) := by decide +kernel
theorem dX11_blind_138 : decode cX11_blind 138 = .ok (.ireturn, 1) := by decide +kernel
theorem dX11_colour_0 : decode cX11_colour 0 = .ok (.aload_n 0, 1) := by decide +kernel
theorem dX11_colour_1 : decode cX11_colour 1 = .ok (.getfield 57, 3) := by decide +kernel
theorem dX11_colour_4 : decode cX11_colour 4 = .ok (.iconst 1, 1) := by decide +kernel
theorem dX11_colour_5 : decode cX11_colour 5 = .ok (.iload_n 1, 1) := by decide +kernel
theorem dX11_colour_6 : decode cX11_colour 6 = .ok (.invokevirtual 167, 3) := by decide +kernel
theorem dX11_colour_9 : decode cX11_colour 9 = .ok (.ifCond .eq 12, 3) := by decide +kernel
theorem dX11_colour_12 : decode cX11_colour 12 = .ok (.iload_n 2, 1) := by decide +kernel
theorem dX11_colour_13 : decode cX11_colour 13 = .ok (.ifCond .lt 8, 3) := by decide +kernel
theorem dX11_colour_16 : decode cX11_colour 16 = .ok (.iload_n 2, 1) := by decide +kernel
theorem dX11_colour_17 : decode cX11_colour 17 = .ok (.iconst 4, 1) := by decide +kernel
theorem dX11_colour_18 : decode cX11_colour 18 = .ok (.if_icmp .le 5, 3) := by decide +kernel
theorem dX11_colour_21 : decode cX11_colour 21 = .ok (.iconst (-1), 1) := by decide +kernel
theorem dX11_colour_22 : decode cX11_colour 22 = .ok (.ireturn, 1) := by decide +kernel
theorem dX11_colour_23 : decode cX11_colour 23 = .ok (.iload_n 2, 1) := by decide +kernel
theorem dX11_colour_24 : decode cX11_colour 24 = .ok (.iconst 4, 1) := by decide +kernel
theorem dX11_colour_25 : decode cX11_colour 25 = .ok (.if_icmp .ne 21, 3) := by decide +kernel
theorem dX11_colour_28 : decode cX11_colour 28 = .ok (.aload_n 0, 1) := by decide +kernel
theorem dX11_colour_29 : decode cX11_colour 29 = .ok (.getfield 26, 3) := by decide +kernel
theorem dX11_colour_32 : decode cX11_colour 32 = .ok (.aload_n 0, 1) := by decide +kernel
theorem dX11_colour_33 : decode cX11_colour 33 = .ok (.getfield 57, 3) := by decide +kernel
theorem dX11_colour_36 : decode cX11_colour 36 = .ok (.getfield 145, 3) := by decide +kernel
theorem dX11_colour_39 : decode cX11_colour 39 = .ok (.iconst 2, 1) := by decide +kernel
theorem dX11_colour_40 : decode cX11_colour 40 = .ok (.iaload, 1) := by decide +kernel
theorem dX11_colour_41 : decode cX11_colour 41 = .ok (.iload_n 1, 1) := by decide +kernel
theorem dX11_colour_42 : decode cX11_colour 42 = .ok (.invokevirtual 153, 3) := by decide +kernel
theorem dX11_colour_45 : decode cX11_colour 45 = .ok (.ireturn, 1) := by decide +kernel
theorem dX11_colour_46 : decode cX11_colour 46 = .ok (.aload_n 0, 1) := by decide +kernel
theorem dX11_colour_47 : decode cX11_colour 47 = .ok (.getfield 57, 3) := by decide +kernel
theorem dX11_colour_50 : decode cX11_colour 50 = .ok (.iconst 1, 1) := by decide +kernel
theorem dX11_colour_51 : decode cX11_colour 51 = .ok (.iload_n 1, 1) := by decide +kernel
theorem dX11_colour_52 : decode cX11_colour 52 = .ok (.iload_n 2, 1) := by decide +kernel
theorem dX11_colour_53 : decode cX11_colour 53 = .ok (.invokevirtual 175, 3) := by decide +kernel
theorem dX11_colour_56 : decode cX11_colour 56 = .ok (.ireturn, 1) := by decide +kernel
theorem dX11_thing_0 : decode cX11_thing 0 = .ok (.aload_n 0, 1) := by decide +kernel
theorem dX11_thing_1 : decode cX11_thing 1 = .ok (.getfield 57, 3) := by decide +kernel
theorem dX11_thing_4 : decode cX11_thing 4 = .ok (.iconst 2, 1) := by decide +kernel
theorem dX11_thing_5 : decode cX11_thing 5 = .ok (.iload_n 1, 1) := by decide +kernel
theorem dX11_thing_6 : decode cX11_thing 6 = .ok (.invokevirtual 167, 3) := by decide +kernel
theorem dX11_thing_9 : decode cX11_thing 9 = .ok (.ifCond .eq 12, 3) := by decide +kernel
theorem dX11_thing_12 : decode cX11_thing 12 = .ok (.iload_n 2, 1) := by decide +kernel
theorem dX11_thing_13 : decode cX11_thing 13 = .ok (.ifCond .lt 8, 3) := by decide +kernel
theorem dX11_thing_16 : decode cX11_thing 16 = .ok (.iload_n 2, 1) := by decide +kernel
theorem dX11_thing_17 : decode cX11_thing 17 = .ok (.iconst 4, 1) := by decide +kernel
theorem dX11_thing_18 : decode cX11_thing 18 = .ok (.if_icmp .le 5, 3) := by decide +kernel
theorem dX11_thing_21 : decode cX11_thing 21 = .ok (.iconst (-1), 1) := by decide +kernel
theorem dX11_thing_22 : decode cX11_thing 22 = .ok (.ireturn, 1) := by decide +kernel
theorem dX11_thing_23 : decode cX11_thing 23 = .ok (.iload_n 2, 1) := by decide +kernel
theorem dX11_thing_24 : decode cX11_thing 24 = .ok (.iconst 3, 1) := by decide +kernel
theorem dX11_thing_25 : decode cX11_thing 25 = .ok (.if_icmp .ne 13, 3) := by decide +kernel
theorem dX11_thing_28 : decode cX11_thing 28 = .ok (.aload_n 0, 1) := by decide +kernel
theorem dX11_thing_29 : decode cX11_thing 29 = .ok (.getfield 26, 3) := by decide +kernel
theorem dX11_thing_32 : decode cX11_thing 32 = .ok (.getfield 157, 3) := by decide +kernel
theorem dX11_thing_35 : decode cX11_thing 35 = .ok (.iload_n 1, 1) := by decide +kernel
theorem dX11_thing_36 : decode cX11_thing 36 = .ok (.iaload, 1) := by decide +kernel
theorem dX11_thing_37 : decode cX11_thing 37 = .ok (.ireturn, 1) := by decide +kernel
theorem dX11_thing_38 : decode cX11_thing 38 = .ok (.iload_n 2, 1) := by decide +kernel
theorem dX11_thing_39 : decode cX11_thing 39 = .ok (.iconst 4, 1) := by decide +kernel
theorem dX11_thing_40 : decode cX11_thing 40 = .ok (.if_icmp .ne 16, 3) := by decide +kernel
theorem dX11_thing_43 : decode cX11_thing 43 = .ok (.aload_n 0, 1) := by decide +kernel
theorem dX11_thing_44 : decode cX11_thing 44 = .ok (.getfield 57, 3) := by decide +kernel
theorem dX11_thing_47 : decode cX11_thing 47 = .ok (.getfield 194, 3) := by decide +kernel
theorem dX11_thing_50 : decode cX11_thing 50 = .ok (.iload_n 1, 1) := by decide +kernel
theorem dX11_thing_51 : decode cX11_thing 51 = .ok (.iaload, 1) := by decide +kernel
theorem dX11_thing_52 : decode cX11_thing 52 = .ok (.invokestatic 197, 3) := by decide +kernel
theorem dX11_thing_55 : decode cX11_thing 55 = .ok (.ireturn, 1) := by decide +kernel
theorem dX11_thing_56 : decode cX11_thing 56 = .ok (.aload_n 0, 1) := by decide +kernel
theorem dX11_thing_57 : decode cX11_thing 57 = .ok (.getfield 57, 3) := by decide +kernel
theorem dX11_thing_60 : decode cX11_thing 60 = .ok (.iconst 2, 1) := by decide +kernel
theorem dX11_thing_61 : decode cX11_thing 61 = .ok (.iload_n 1, 1) := by decide +kernel
theorem dX11_thing_62 : decode cX11_thing 62 = .ok (.iload_n 2, 1) := by decide +kernel
theorem dX11_thing_63 : decode cX11_thing 63 = .ok (.invokevirtual 175, 3) := by decide +kernel
theorem dX11_thing_66 : decode cX11_thing 66 = .ok (.ireturn, 1) := by decide +kernel
theorem dX11_score_0 : decode cX11_score 0 = .ok (.aload_n 0, 1) := by decide +kernel
theorem dX11_score_1 : decode cX11_score 1 = .ok (.iload_n 1, 1) := by decide +kernel
theorem dX11_score_2 : decode cX11_score 2 = .ok (.iload_n 2, 1) := by decide +kernel
theorem dX11_score_3 : decode cX11_score 3 = .ok (.invokevirtual 202, 3) := by decide +kernel
theorem dX11_score_6 : decode cX11_score 6 = .ok (.ifCond .eq 15, 3) := by decide +kernel
theorem dX11_score_9 : decode cX11_score 9 = .ok (.aload_n 0, 1) := by decide +kernel
theorem dX11_score_10 : decode cX11_score 10 = .ok (.getfield 57, 3) := by decide +kernel
theorem dX11_score_13 : decode cX11_score 13 = .ok (.iconst 1, 1) := by decide +kernel
theorem dX11_score_14 : decode cX11_score 14 = .ok (.iload_n 3, 1) := by decide +kernel
theorem dX11_score_15 : decode cX11_score 15 = .ok (.invokevirtual 167, 3) := by decide +kernel
theorem dX11_score_18 : decode cX11_score 18 = .ok (.ifCond .ne 7, 3) := by decide +kernel
theorem dX11_score_21 : decode cX11_score 21 = .ok (.ldc2_w 205, 3) := by decide +kernel
theorem dX11_score_24 : decode cX11_score 24 = .ok (.lreturn, 1) := by decide +kernel
theorem dX11_score_25 : decode cX11_score 25 = .ok (.aload_n 0, 1) := by decide +kernel
theorem dX11_score_26 : decode cX11_score 26 = .ok (.getfield 88, 3) := by decide +kernel
theorem dX11_score_29 : decode cX11_score 29 = .ok (.aload_n 0, 1) := by decide +kernel
theorem dX11_score_30 : decode cX11_score 30 = .ok (.getfield 57, 3) := by decide +kernel
theorem dX11_score_33 : decode cX11_score 33 = .ok (.aload_n 0, 1) := by decide +kernel
theorem dX11_score_34 : decode cX11_score 34 = .ok (.getfield 26, 3) := by decide +kernel
theorem dX11_score_37 : decode cX11_score 37 = .ok (.iload_n 2, 1) := by decide +kernel
theorem dX11_score_38 : decode cX11_score 38 = .ok (.invokevirtual 187, 3) := by decide +kernel
theorem dX11_score_41 : decode cX11_score 41 = .ok (.aload_n 0, 1) := by decide +kernel
theorem dX11_score_42 : decode cX11_score 42 = .ok (.getfield 88, 3) := by decide +kernel
theorem dX11_score_45 : decode cX11_score 45 = .ok (.iload_n 1, 1) := by decide +kernel
theorem dX11_score_46 : decode cX11_score 46 = .ok (.iload_n 3, 1) := by decide +kernel
theorem dX11_score_47 : decode cX11_score 47 = .ok (.iconst 0, 1) := by decide +kernel
theorem dX11_score_48 : decode cX11_score 48 = .ok (.invokevirtual 207, 3) := by decide +kernel
theorem dX11_score_51 : decode cX11_score 51 = .ok (.i2l, 1) := by decide +kernel
theorem dX11_score_52 : decode cX11_score 52 = .ok (.lreturn, 1) := by decide +kernel
theorem dX11_word_0 : decode cX11_word 0 = .ok (.aload_n 0, 1) := by decide +kernel
theorem dX11_word_1 : decode cX11_word 1 = .ok (.iload_n 1, 1) := by decide +kernel
theorem dX11_word_2 : decode cX11_word 2 = .ok (.iload_n 2, 1) := by decide +kernel
theorem dX11_word_3 : decode cX11_word 3 = .ok (.invokevirtual 202, 3) := by decide +kernel
theorem dX11_word_6 : decode cX11_word 6 = .ok (.ifCond .ne 5, 3) := by decide +kernel
theorem dX11_word_9 : decode cX11_word 9 = .ok (.iconst (-1), 1) := by decide +kernel
theorem dX11_word_10 : decode cX11_word 10 = .ok (.ireturn, 1) := by decide +kernel
theorem dX11_word_11 : decode cX11_word 11 = .ok (.aload_n 0, 1) := by decide +kernel
theorem dX11_word_12 : decode cX11_word 12 = .ok (.getfield 88, 3) := by decide +kernel
theorem dX11_word_15 : decode cX11_word 15 = .ok (.aload_n 0, 1) := by decide +kernel
theorem dX11_word_16 : decode cX11_word 16 = .ok (.getfield 57, 3) := by decide +kernel
theorem dX11_word_19 : decode cX11_word 19 = .ok (.aload_n 0, 1) := by decide +kernel
theorem dX11_word_20 : decode cX11_word 20 = .ok (.getfield 26, 3) := by decide +kernel
theorem dX11_word_23 : decode cX11_word 23 = .ok (.iload_n 2, 1) := by decide +kernel
theorem dX11_word_24 : decode cX11_word 24 = .ok (.invokevirtual 187, 3) := by decide +kernel
theorem dX11_word_27 : decode cX11_word 27 = .ok (.aload_n 0, 1) := by decide +kernel
theorem dX11_word_28 : decode cX11_word 28 = .ok (.getfield 88, 3) := by decide +kernel
theorem dX11_word_31 : decode cX11_word 31 = .ok (.iload_n 1, 1) := by decide +kernel
theorem dX11_word_32 : decode cX11_word 32 = .ok (.invokevirtual 210, 3) := by decide +kernel
theorem dX11_word_35 : decode cX11_word 35 = .ok (.ireturn, 1) := by decide +kernel
theorem dX11_choice_0 : decode cX11_choice 0 = .ok (.aload_n 0, 1) := by decide +kernel
theorem dX11_choice_1 : decode cX11_choice 1 = .ok (.getfield 57, 3) := by decide +kernel
theorem dX11_choice_4 : decode cX11_choice 4 = .ok (.iconst 2, 1) := by decide +kernel
theorem dX11_choice_5 : decode cX11_choice 5 = .ok (.iload_n 1, 1) := by decide +kernel
theorem dX11_choice_6 : decode cX11_choice 6 = .ok (.invokevirtual 167, 3) := by decide +kernel
theorem dX11_choice_9 : decode cX11_choice 9 = .ok (.ifCond .eq 12, 3) := by decide +kernel
theorem dX11_choice_12 : decode cX11_choice 12 = .ok (.iload_n 2, 1) := by decide +kernel
theorem dX11_choice_13 : decode cX11_choice 13 = .ok (.ifCond .lt 8, 3) := by decide +kernel
theorem dX11_choice_16 : decode cX11_choice 16 = .ok (.iload_n 2, 1) := by decide +kernel
theorem dX11_choice_17 : decode cX11_choice 17 = .ok (.iconst 1, 1) := by decide +kernel
theorem dX11_choice_18 : decode cX11_choice 18 = .ok (.if_icmp .le 5, 3) := by decide +kernel
theorem dX11_choice_21 : decode cX11_choice 21 = .ok (.iconst (-1), 1) := by decide +kernel
theorem dX11_choice_22 : decode cX11_choice 22 = .ok (.ireturn, 1) := by decide +kernel
theorem dX11_choice_23 : decode cX11_choice 23 = .ok (.aload_n 0, 1) := by decide +kernel
theorem dX11_choice_24 : decode cX11_choice 24 = .ok (.getfield 88, 3) := by decide +kernel
theorem dX11_choice_27 : decode cX11_choice 27 = .ok (.aload_n 0, 1) := by decide +kernel
theorem dX11_choice_28 : decode cX11_choice 28 = .ok (.getfield 57, 3) := by decide +kernel
theorem dX11_choice_31 : decode cX11_choice 31 = .ok (.aload_n 0, 1) := by decide +kernel
theorem dX11_choice_32 : decode cX11_choice 32 = .ok (.getfield 26, 3) := by decide +kernel
theorem dX11_choice_35 : decode cX11_choice 35 = .ok (.iload_n 1, 1) := by decide +kernel
theorem dX11_choice_36 : decode cX11_choice 36 = .ok (.invokevirtual 187, 3) := by decide +kernel
theorem dX11_choice_39 : decode cX11_choice 39 = .ok (.aload_n 0, 1) := by decide +kernel
theorem dX11_choice_40 : decode cX11_choice 40 = .ok (.getfield 88, 3) := by decide +kernel
theorem dX11_choice_43 : decode cX11_choice 43 = .ok (.aload_n 0, 1) := by decide +kernel
theorem dX11_choice_44 : decode cX11_choice 44 = .ok (.getfield 26, 3) := by decide +kernel
theorem dX11_choice_47 : decode cX11_choice 47 = .ok (.getfield 213, 3) := by decide +kernel
theorem dX11_choice_50 : decode cX11_choice 50 = .ok (.aload_n 0, 1) := by decide +kernel
theorem dX11_choice_51 : decode cX11_choice 51 = .ok (.getfield 57, 3) := by decide +kernel
theorem dX11_choice_54 : decode cX11_choice 54 = .ok (.invokevirtual 216, 3) := by decide +kernel
theorem dX11_choice_57 : decode cX11_choice 57 = .ok (.invokevirtual 220, 3) := by decide +kernel
theorem dX11_choice_60 : decode cX11_choice 60 = .ok (.istore_n 3, 1) := by decide +kernel
theorem dX11_choice_61 : decode cX11_choice 61 = .ok (.iload_n 2, 1) := by decide +kernel
theorem dX11_choice_62 : decode cX11_choice 62 = .ok (.ifCond .ne 7, 3) := by decide +kernel
theorem dX11_choice_65 : decode cX11_choice 65 = .ok (.iload_n 3, 1) := by decide +kernel
theorem dX11_choice_66 : decode cX11_choice 66 = .ok (.goto 11, 3) := by decide +kernel
theorem dX11_choice_69 : decode cX11_choice 69 = .ok (.aload_n 0, 1) := by decide +kernel
theorem dX11_choice_70 : decode cX11_choice 70 = .ok (.getfield 88, 3) := by decide +kernel
theorem dX11_choice_73 : decode cX11_choice 73 = .ok (.iload_n 3, 1) := by decide +kernel
theorem dX11_choice_74 : decode cX11_choice 74 = .ok (.invokevirtual 224, 3) := by decide +kernel
theorem dX11_choice_77 : decode cX11_choice 77 = .ok (.ireturn, 1) := by decide +kernel
theorem dX11_later_0 : decode cX11_later 0 = .ok (.aload_n 0, 1) := by decide +kernel
theorem dX11_later_1 : decode cX11_later 1 = .ok (.getfield 57, 3) := by decide +kernel
theorem dX11_later_4 : decode cX11_later 4 = .ok (.iconst 2, 1) := by decide +kernel
theorem dX11_later_5 : decode cX11_later 5 = .ok (.iload_n 1, 1) := by decide +kernel
theorem dX11_later_6 : decode cX11_later 6 = .ok (.invokevirtual 167, 3) := by decide +kernel
theorem dX11_later_9 : decode cX11_later 9 = .ok (.ifCond .eq 11, 3) := by decide +kernel
theorem dX11_later_12 : decode cX11_later 12 = .ok (.aload_n 0, 1) := by decide +kernel
theorem dX11_later_13 : decode cX11_later 13 = .ok (.iload_n 2, 1) := by decide +kernel
theorem dX11_later_14 : decode cX11_later 14 = .ok (.invokevirtual 227, 3) := by decide +kernel
theorem dX11_later_17 : decode cX11_later 17 = .ok (.ifCond .ne 5, 3) := by decide +kernel
theorem dX11_later_20 : decode cX11_later 20 = .ok (.iconst (-1), 1) := by decide +kernel
theorem dX11_later_21 : decode cX11_later 21 = .ok (.ireturn, 1) := by decide +kernel
theorem dX11_later_22 : decode cX11_later 22 = .ok (.aload_n 0, 1) := by decide +kernel
theorem dX11_later_23 : decode cX11_later 23 = .ok (.iload_n 2, 1) := by decide +kernel
theorem dX11_later_24 : decode cX11_later 24 = .ok (.invokevirtual 230, 3) := by decide +kernel
theorem dX11_later_27 : decode cX11_later 27 = .ok (.aload_n 0, 1) := by decide +kernel
theorem dX11_later_28 : decode cX11_later 28 = .ok (.getfield 30, 3) := by decide +kernel
theorem dX11_later_31 : decode cX11_later 31 = .ok (.getfield 157, 3) := by decide +kernel
theorem dX11_later_34 : decode cX11_later 34 = .ok (.iload_n 1, 1) := by decide +kernel
theorem dX11_later_35 : decode cX11_later 35 = .ok (.iaload, 1) := by decide +kernel
theorem dX11_later_36 : decode cX11_later 36 = .ok (.ireturn, 1) := by decide +kernel
theorem dX11_mood_0 : decode cX11_mood 0 = .ok (.aload_n 0, 1) := by decide +kernel
theorem dX11_mood_1 : decode cX11_mood 1 = .ok (.getfield 57, 3) := by decide +kernel
theorem dX11_mood_4 : decode cX11_mood 4 = .ok (.iconst 0, 1) := by decide +kernel
theorem dX11_mood_5 : decode cX11_mood 5 = .ok (.iload_n 1, 1) := by decide +kernel
theorem dX11_mood_6 : decode cX11_mood 6 = .ok (.invokevirtual 167, 3) := by decide +kernel
theorem dX11_mood_9 : decode cX11_mood 9 = .ok (.ifCond .eq 11, 3) := by decide +kernel
theorem dX11_mood_12 : decode cX11_mood 12 = .ok (.aload_n 0, 1) := by decide +kernel
theorem dX11_mood_13 : decode cX11_mood 13 = .ok (.iload_n 2, 1) := by decide +kernel
theorem dX11_mood_14 : decode cX11_mood 14 = .ok (.invokevirtual 227, 3) := by decide +kernel
theorem dX11_mood_17 : decode cX11_mood 17 = .ok (.ifCond .ne 5, 3) := by decide +kernel
theorem dX11_mood_20 : decode cX11_mood 20 = .ok (.iconst (-1), 1) := by decide +kernel
theorem dX11_mood_21 : decode cX11_mood 21 = .ok (.ireturn, 1) := by decide +kernel
theorem dX11_mood_22 : decode cX11_mood 22 = .ok (.aload_n 0, 1) := by decide +kernel
theorem dX11_mood_23 : decode cX11_mood 23 = .ok (.iload_n 2, 1) := by decide +kernel
theorem dX11_mood_24 : decode cX11_mood 24 = .ok (.invokevirtual 230, 3) := by decide +kernel
theorem dX11_mood_27 : decode cX11_mood 27 = .ok (.aload_n 0, 1) := by decide +kernel
theorem dX11_mood_28 : decode cX11_mood 28 = .ok (.getfield 30, 3) := by decide +kernel
theorem dX11_mood_31 : decode cX11_mood 31 = .ok (.getfield 181, 3) := by decide +kernel
theorem dX11_mood_34 : decode cX11_mood 34 = .ok (.iload_n 1, 1) := by decide +kernel
theorem dX11_mood_35 : decode cX11_mood 35 = .ok (.iaload, 1) := by decide +kernel
theorem dX11_mood_36 : decode cX11_mood 36 = .ok (.ireturn, 1) := by decide +kernel
theorem dX11_purse_0 : decode cX11_purse 0 = .ok (.aload_n 0, 1) := by decide +kernel
theorem dX11_purse_1 : decode cX11_purse 1 = .ok (.iload_n 1, 1) := by decide +kernel
theorem dX11_purse_2 : decode cX11_purse 2 = .ok (.invokevirtual 227, 3) := by decide +kernel
theorem dX11_purse_5 : decode cX11_purse 5 = .ok (.ifCond .ne 5, 3) := by decide +kernel
theorem dX11_purse_8 : decode cX11_purse 8 = .ok (.iconst (-1), 1) := by decide +kernel
theorem dX11_purse_9 : decode cX11_purse 9 = .ok (.ireturn, 1) := by decide +kernel
theorem dX11_purse_10 : decode cX11_purse 10 = .ok (.aload_n 0, 1) := by decide +kernel
theorem dX11_purse_11 : decode cX11_purse 11 = .ok (.iload_n 1, 1) := by decide +kernel
theorem dX11_purse_12 : decode cX11_purse 12 = .ok (.invokevirtual 230, 3) := by decide +kernel
theorem dX11_purse_15 : decode cX11_purse 15 = .ok (.aload_n 0, 1) := by decide +kernel
theorem dX11_purse_16 : decode cX11_purse 16 = .ok (.getfield 30, 3) := by decide +kernel
theorem dX11_purse_19 : decode cX11_purse 19 = .ok (.getfield 150, 3) := by decide +kernel
theorem dX11_purse_22 : decode cX11_purse 22 = .ok (.ireturn, 1) := by decide +kernel
theorem dX11_order_0 : decode cX11_order 0 = .ok (.aload_n 0, 1) := by decide +kernel
theorem dX11_order_1 : decode cX11_order 1 = .ok (.getfield 57, 3) := by decide +kernel
theorem dX11_order_4 : decode cX11_order 4 = .ok (.iconst 2, 1) := by decide +kernel
theorem dX11_order_5 : decode cX11_order 5 = .ok (.iload_n 1, 1) := by decide +kernel
theorem dX11_order_6 : decode cX11_order 6 = .ok (.invokevirtual 167, 3) := by decide +kernel
theorem dX11_order_9 : decode cX11_order 9 = .ok (.ifCond .eq 27, 3) := by decide +kernel
theorem dX11_order_12 : decode cX11_order 12 = .ok (.aload_n 0, 1) := by decide +kernel
theorem dX11_order_13 : decode cX11_order 13 = .ok (.getfield 57, 3) := by decide +kernel
theorem dX11_order_16 : decode cX11_order 16 = .ok (.iconst 1, 1) := by decide +kernel
theorem dX11_order_17 : decode cX11_order 17 = .ok (.iload_n 2, 1) := by decide +kernel
theorem dX11_order_18 : decode cX11_order 18 = .ok (.invokevirtual 167, 3) := by decide +kernel
theorem dX11_order_21 : decode cX11_order 21 = .ok (.ifCond .eq 15, 3) := by decide +kernel
theorem dX11_order_24 : decode cX11_order 24 = .ok (.aload_n 0, 1) := by decide +kernel
theorem dX11_order_25 : decode cX11_order 25 = .ok (.getfield 57, 3) := by decide +kernel
theorem dX11_order_28 : decode cX11_order 28 = .ok (.iconst 0, 1) := by decide +kernel
theorem dX11_order_29 : decode cX11_order 29 = .ok (.iload_n 3, 1) := by decide +kernel
theorem dX11_order_30 : decode cX11_order 30 = .ok (.invokevirtual 167, 3) := by decide +kernel
theorem dX11_order_33 : decode cX11_order 33 = .ok (.ifCond .ne 5, 3) := by decide +kernel
theorem dX11_order_36 : decode cX11_order 36 = .ok (.iconst (-1), 1) := by decide +kernel
theorem dX11_order_37 : decode cX11_order 37 = .ok (.ireturn, 1) := by decide +kernel
theorem dX11_order_38 : decode cX11_order 38 = .ok (.aload_n 0, 1) := by decide +kernel
theorem dX11_order_39 : decode cX11_order 39 = .ok (.getfield 88, 3) := by decide +kernel
theorem dX11_order_42 : decode cX11_order 42 = .ok (.aload_n 0, 1) := by decide +kernel
theorem dX11_order_43 : decode cX11_order 43 = .ok (.getfield 57, 3) := by decide +kernel
theorem dX11_order_46 : decode cX11_order 46 = .ok (.aload_n 0, 1) := by decide +kernel
theorem dX11_order_47 : decode cX11_order 47 = .ok (.getfield 26, 3) := by decide +kernel
theorem dX11_order_50 : decode cX11_order 50 = .ok (.iload_n 1, 1) := by decide +kernel
theorem dX11_order_51 : decode cX11_order 51 = .ok (.invokevirtual 187, 3) := by decide +kernel
theorem dX11_order_54 : decode cX11_order 54 = .ok (.aload_n 0, 1) := by decide +kernel
theorem dX11_order_55 : decode cX11_order 55 = .ok (.getfield 88, 3) := by decide +kernel
theorem dX11_order_58 : decode cX11_order 58 = .ok (.aload_n 0, 1) := by decide +kernel
theorem dX11_order_59 : decode cX11_order 59 = .ok (.getfield 47, 3) := by decide +kernel
theorem dX11_order_62 : decode cX11_order 62 = .ok (.iload_n 2, 1) := by decide +kernel
theorem dX11_order_63 : decode cX11_order 63 = .ok (.invokevirtual 233, 3) := by decide +kernel
theorem dX11_order_66 : decode cX11_order 66 = .ok (.ifCond .eq 12, 3) := by decide +kernel
theorem dX11_order_69 : decode cX11_order 69 = .ok (.aload_n 0, 1) := by decide +kernel
theorem dX11_order_70 : decode cX11_order 70 = .ok (.getfield 47, 3) := by decide +kernel
theorem dX11_order_73 : decode cX11_order 73 = .ok (.iload_n 3, 1) := by decide +kernel
theorem dX11_order_74 : decode cX11_order 74 = .ok (.iaload, 1) := by decide +kernel
theorem dX11_order_75 : decode cX11_order 75 = .ok (.goto 4, 3) := by decide +kernel
theorem dX11_order_78 : decode cX11_order 78 = .ok (.iconst (-1), 1) := by decide +kernel
theorem dX11_order_79 : decode cX11_order 79 = .ok (.ireturn, 1) := by decide +kernel
theorem dX11_orders_0 : decode cX11_orders 0 = .ok (.aload_n 0, 1) := by decide +kernel
theorem dX11_orders_1 : decode cX11_orders 1 = .ok (.getfield 57, 3) := by decide +kernel
theorem dX11_orders_4 : decode cX11_orders 4 = .ok (.iconst 2, 1) := by decide +kernel
theorem dX11_orders_5 : decode cX11_orders 5 = .ok (.iload_n 1, 1) := by decide +kernel
theorem dX11_orders_6 : decode cX11_orders 6 = .ok (.invokevirtual 167, 3) := by decide +kernel
theorem dX11_orders_9 : decode cX11_orders 9 = .ok (.ifCond .eq 15, 3) := by decide +kernel
theorem dX11_orders_12 : decode cX11_orders 12 = .ok (.aload_n 0, 1) := by decide +kernel
theorem dX11_orders_13 : decode cX11_orders 13 = .ok (.getfield 57, 3) := by decide +kernel
theorem dX11_orders_16 : decode cX11_orders 16 = .ok (.iconst 1, 1) := by decide +kernel
theorem dX11_orders_17 : decode cX11_orders 17 = .ok (.iload_n 2, 1) := by decide +kernel
theorem dX11_orders_18 : decode cX11_orders 18 = .ok (.invokevirtual 167, 3) := by decide +kernel
theorem dX11_orders_21 : decode cX11_orders 21 = .ok (.ifCond .ne 5, 3) := by decide +kernel
theorem dX11_orders_24 : decode cX11_orders 24 = .ok (.iconst (-1), 1) := by decide +kernel
theorem dX11_orders_25 : decode cX11_orders 25 = .ok (.ireturn, 1) := by decide +kernel
theorem dX11_orders_26 : decode cX11_orders 26 = .ok (.aload_n 0, 1) := by decide +kernel
theorem dX11_orders_27 : decode cX11_orders 27 = .ok (.getfield 88, 3) := by decide +kernel
theorem dX11_orders_30 : decode cX11_orders 30 = .ok (.aload_n 0, 1) := by decide +kernel
theorem dX11_orders_31 : decode cX11_orders 31 = .ok (.getfield 57, 3) := by decide +kernel
theorem dX11_orders_34 : decode cX11_orders 34 = .ok (.aload_n 0, 1) := by decide +kernel
theorem dX11_orders_35 : decode cX11_orders 35 = .ok (.getfield 26, 3) := by decide +kernel
theorem dX11_orders_38 : decode cX11_orders 38 = .ok (.iload_n 1, 1) := by decide +kernel
theorem dX11_orders_39 : decode cX11_orders 39 = .ok (.invokevirtual 187, 3) := by decide +kernel
theorem dX11_orders_42 : decode cX11_orders 42 = .ok (.aload_n 0, 1) := by decide +kernel
theorem dX11_orders_43 : decode cX11_orders 43 = .ok (.getfield 88, 3) := by decide +kernel
theorem dX11_orders_46 : decode cX11_orders 46 = .ok (.aload_n 0, 1) := by decide +kernel
theorem dX11_orders_47 : decode cX11_orders 47 = .ok (.getfield 47, 3) := by decide +kernel
theorem dX11_orders_50 : decode cX11_orders 50 = .ok (.iload_n 2, 1) := by decide +kernel
theorem dX11_orders_51 : decode cX11_orders 51 = .ok (.invokevirtual 237, 3) := by decide +kernel
theorem dX11_orders_54 : decode cX11_orders 54 = .ok (.ireturn, 1) := by decide +kernel
theorem dX11_power_0 : decode cX11_power 0 = .ok (.aload_n 0, 1) := by decide +kernel
theorem dX11_power_1 : decode cX11_power 1 = .ok (.iload_n 1, 1) := by decide +kernel
theorem dX11_power_2 : decode cX11_power 2 = .ok (.iload_n 2, 1) := by decide +kernel
theorem dX11_power_3 : decode cX11_power 3 = .ok (.invokevirtual 202, 3) := by decide +kernel
theorem dX11_power_6 : decode cX11_power 6 = .ok (.ifCond .ne 5, 3) := by decide +kernel
theorem dX11_power_9 : decode cX11_power 9 = .ok (.iconst (-1), 1) := by decide +kernel
theorem dX11_power_10 : decode cX11_power 10 = .ok (.ireturn, 1) := by decide +kernel
theorem dX11_power_11 : decode cX11_power 11 = .ok (.aload_n 0, 1) := by decide +kernel
theorem dX11_power_12 : decode cX11_power 12 = .ok (.getfield 88, 3) := by decide +kernel
theorem dX11_power_15 : decode cX11_power 15 = .ok (.aload_n 0, 1) := by decide +kernel
theorem dX11_power_16 : decode cX11_power 16 = .ok (.getfield 57, 3) := by decide +kernel
theorem dX11_power_19 : decode cX11_power 19 = .ok (.aload_n 0, 1) := by decide +kernel
theorem dX11_power_20 : decode cX11_power 20 = .ok (.getfield 26, 3) := by decide +kernel
theorem dX11_power_23 : decode cX11_power 23 = .ok (.iload_n 2, 1) := by decide +kernel
theorem dX11_power_24 : decode cX11_power 24 = .ok (.invokevirtual 187, 3) := by decide +kernel
theorem dX11_power_27 : decode cX11_power 27 = .ok (.aload_n 0, 1) := by decide +kernel
theorem dX11_power_28 : decode cX11_power 28 = .ok (.getfield 88, 3) := by decide +kernel
theorem dX11_power_31 : decode cX11_power 31 = .ok (.iload_n 1, 1) := by decide +kernel
theorem dX11_power_32 : decode cX11_power 32 = .ok (.invokevirtual 240, 3) := by decide +kernel
theorem dX11_power_35 : decode cX11_power 35 = .ok (.ireturn, 1) := by decide +kernel
theorem dX11_clear_0 : decode cX11_clear 0 = .ok (.aload_n 0, 1) := by decide +kernel
theorem dX11_clear_1 : decode cX11_clear 1 = .ok (.getfield 57, 3) := by decide +kernel
theorem dX11_clear_4 : decode cX11_clear 4 = .ok (.aload_n 0, 1) := by decide +kernel
theorem dX11_clear_5 : decode cX11_clear 5 = .ok (.getfield 26, 3) := by decide +kernel
theorem dX11_clear_8 : decode cX11_clear 8 = .ok (.getfield 157, 3) := by decide +kernel
theorem dX11_clear_11 : decode cX11_clear 11 = .ok (.aload_n 0, 1) := by decide +kernel
theorem dX11_clear_12 : decode cX11_clear 12 = .ok (.getfield 47, 3) := by decide +kernel
theorem dX11_clear_15 : decode cX11_clear 15 = .ok (.invokevirtual 243, 3) := by decide +kernel
theorem dX11_clear_18 : decode cX11_clear 18 = .ok (.ireturn, 1) := by decide +kernel
theorem dX11_odds_0 : decode cX11_odds 0 = .ok (.iload_n 1, 1) := by decide +kernel
theorem dX11_odds_1 : decode cX11_odds 1 = .ok (.iconst (-1), 1) := by decide +kernel
theorem dX11_odds_2 : decode cX11_odds 2 = .ok (.if_icmp .eq 17, 3) := by decide +kernel
theorem dX11_odds_5 : decode cX11_odds 5 = .ok (.aload_n 0, 1) := by decide +kernel
theorem dX11_odds_6 : decode cX11_odds 6 = .ok (.getfield 57, 3) := by decide +kernel
theorem dX11_odds_9 : decode cX11_odds 9 = .ok (.iconst 1, 1) := by decide +kernel
theorem dX11_odds_10 : decode cX11_odds 10 = .ok (.iload_n 1, 1) := by decide +kernel
theorem dX11_odds_11 : decode cX11_odds 11 = .ok (.invokevirtual 167, 3) := by decide +kernel
theorem dX11_odds_14 : decode cX11_odds 14 = .ok (.ifCond .ne 5, 3) := by decide +kernel
theorem dX11_odds_17 : decode cX11_odds 17 = .ok (.iconst (-1), 1) := by decide +kernel
theorem dX11_odds_18 : decode cX11_odds 18 = .ok (.ireturn, 1) := by decide +kernel
theorem dX11_odds_19 : decode cX11_odds 19 = .ok (.aload_n 0, 1) := by decide +kernel
theorem dX11_odds_20 : decode cX11_odds 20 = .ok (.getfield 57, 3) := by decide +kernel
theorem dX11_odds_23 : decode cX11_odds 23 = .ok (.getfield 145, 3) := by decide +kernel
theorem dX11_odds_26 : decode cX11_odds 26 = .ok (.iconst 0, 1) := by decide +kernel
theorem dX11_odds_27 : decode cX11_odds 27 = .ok (.iaload, 1) := by decide +kernel
theorem dX11_odds_28 : decode cX11_odds 28 = .ok (.istore_n 2, 1) := by decide +kernel
theorem dX11_odds_29 : decode cX11_odds 29 = .ok (.aload_n 0, 1) := by decide +kernel
theorem dX11_odds_30 : decode cX11_odds 30 = .ok (.getfield 57, 3) := by decide +kernel
theorem dX11_odds_33 : decode cX11_odds 33 = .ok (.getfield 145, 3) := by decide +kernel
theorem dX11_odds_36 : decode cX11_odds 36 = .ok (.iconst 2, 1) := by decide +kernel
theorem dX11_odds_37 : decode cX11_odds 37 = .ok (.iaload, 1) := by decide +kernel
theorem dX11_odds_38 : decode cX11_odds 38 = .ok (.istore_n 3, 1) := by decide +kernel
theorem dX11_odds_39 : decode cX11_odds 39 = .ok (.iload_n 2, 1) := by decide +kernel
theorem dX11_odds_40 : decode cX11_odds 40 = .ok (.ifCond .eq 20, 3) := by decide +kernel
theorem dX11_odds_43 : decode cX11_odds 43 = .ok (.iload_n 3, 1) := by decide +kernel
theorem dX11_odds_44 : decode cX11_odds 44 = .ok (.ifCond .eq 16, 3) := by decide +kernel
theorem dX11_odds_47 : decode cX11_odds 47 = .ok (.aload_n 0, 1) := by decide +kernel
theorem dX11_odds_48 : decode cX11_odds 48 = .ok (.getfield 26, 3) := by decide +kernel
theorem dX11_odds_51 : decode cX11_odds 51 = .ok (.getfield 147, 3) := by decide +kernel
theorem dX11_odds_54 : decode cX11_odds 54 = .ok (.sipush 999, 3) := by decide +kernel
theorem dX11_odds_57 : decode cX11_odds 57 = .ok (.if_icmp .lt 5, 3) := by decide +kernel
theorem dX11_odds_60 : decode cX11_odds 60 = .ok (.iconst (-1), 1) := by decide +kernel
theorem dX11_odds_61 : decode cX11_odds 61 = .ok (.ireturn, 1) := by decide +kernel
theorem dX11_odds_62 : decode cX11_odds 62 = .ok (.iload_n 1, 1) := by decide +kernel
theorem dX11_odds_63 : decode cX11_odds 63 = .ok (.iconst (-1), 1) := by decide +kernel
theorem dX11_odds_64 : decode cX11_odds 64 = .ok (.if_icmp .ne 8, 3) := by decide +kernel
theorem dX11_odds_67 : decode cX11_odds 67 = .ok (.bipush 100, 2) := by decide +kernel
theorem dX11_odds_69 : decode cX11_odds 69 = .ok (.iload_n 2, 1) := by decide +kernel
theorem dX11_odds_70 : decode cX11_odds 70 = .ok (.imul, 1) := by decide +kernel
theorem dX11_odds_71 : decode cX11_odds 71 = .ok (.ireturn, 1) := by decide +kernel
theorem dX11_odds_72 : decode cX11_odds 72 = .ok (.aload_n 0, 1) := by decide +kernel
theorem dX11_odds_73 : decode cX11_odds 73 = .ok (.getfield 88, 3) := by decide +kernel
theorem dX11_odds_76 : decode cX11_odds 76 = .ok (.aload_n 0, 1) := by decide +kernel
theorem dX11_odds_77 : decode cX11_odds 77 = .ok (.getfield 57, 3) := by decide +kernel
theorem dX11_odds_80 : decode cX11_odds 80 = .ok (.aload_n 0, 1) := by decide +kernel
theorem dX11_odds_81 : decode cX11_odds 81 = .ok (.getfield 26, 3) := by decide +kernel
theorem dX11_odds_84 : decode cX11_odds 84 = .ok (.aload_n 0, 1) := by decide +kernel
theorem dX11_odds_85 : decode cX11_odds 85 = .ok (.getfield 26, 3) := by decide +kernel
theorem dX11_odds_88 : decode cX11_odds 88 = .ok (.getfield 147, 3) := by decide +kernel
theorem dX11_odds_91 : decode cX11_odds 91 = .ok (.iload_n 3, 1) := by decide +kernel
theorem dX11_odds_92 : decode cX11_odds 92 = .ok (.irem, 1) := by decide +kernel
theorem dX11_odds_93 : decode cX11_odds 93 = .ok (.invokevirtual 187, 3) := by decide +kernel
theorem dX11_odds_96 : decode cX11_odds 96 = .ok (.aload_n 0, 1) := by decide +kernel
theorem dX11_odds_97 : decode cX11_odds 97 = .ok (.getfield 88, 3) := by decide +kernel
theorem dX11_odds_100 : decode cX11_odds 100 = .ok (.iload_n 1, 1) := by decide +kernel
theorem dX11_odds_101 : decode cX11_odds 101 = .ok (.invokevirtual 247, 3) := by decide +kernel
theorem dX11_odds_104 : decode cX11_odds 104 = .ok (.ireturn, 1) := by decide +kernel
theorem dX11_meet_0 : decode cX11_meet 0 = .ok (.aload_n 0, 1) := by decide +kernel
theorem dX11_meet_1 : decode cX11_meet 1 = .ok (.getfield 106, 3) := by decide +kernel
theorem dX11_meet_4 : decode cX11_meet 4 = .ok (.aload_n 0, 1) := by decide +kernel
theorem dX11_meet_5 : decode cX11_meet 5 = .ok (.getfield 10, 3) := by decide +kernel
theorem dX11_meet_8 : decode cX11_meet 8 = .ok (.aload_n 0, 1) := by decide +kernel
theorem dX11_meet_9 : decode cX11_meet 9 = .ok (.getfield 57, 3) := by decide +kernel
theorem dX11_meet_12 : decode cX11_meet 12 = .ok (.invokevirtual 250, 3) := by decide +kernel
theorem dX11_meet_15 : decode cX11_meet 15 = .ok (.istore_n 1, 1) := by decide +kernel
theorem dX11_meet_16 : decode cX11_meet 16 = .ok (.aload_n 0, 1) := by decide +kernel
theorem dX11_meet_17 : decode cX11_meet 17 = .ok (.getfield 10, 3) := by decide +kernel
theorem dX11_meet_20 : decode cX11_meet 20 = .ok (.iconst 0, 1) := by decide +kernel
theorem dX11_meet_21 : decode cX11_meet 21 = .ok (.putfield 114, 3) := by decide +kernel
theorem dX11_meet_24 : decode cX11_meet 24 = .ok (.iload_n 1, 1) := by decide +kernel
theorem dX11_meet_25 : decode cX11_meet 25 = .ok (.ifCond .eq 13, 3) := by decide +kernel
theorem dX11_meet_28 : decode cX11_meet 28 = .ok (.aload_n 0, 1) := by decide +kernel
theorem dX11_meet_29 : decode cX11_meet 29 = .ok (.getfield 106, 3) := by decide +kernel
theorem dX11_meet_32 : decode cX11_meet 32 = .ok (.getfield 142, 3) := by decide +kernel
theorem dX11_meet_35 : decode cX11_meet 35 = .ok (.goto 8, 3) := by decide +kernel
theorem dX11_meet_38 : decode cX11_meet 38 = .ok (.aload_n 0, 1) := by decide +kernel
theorem dX11_meet_39 : decode cX11_meet 39 = .ok (.iconst 5, 1) := by decide +kernel
theorem dX11_meet_40 : decode cX11_meet 40 = .ok (.invokevirtual 117, 3) := by decide +kernel
theorem dX11_meet_43 : decode cX11_meet 43 = .ok (.ireturn, 1) := by decide +kernel
theorem dX11_tastes_0 : decode cX11_tastes 0 = .ok (.aload_n 0, 1) := by decide +kernel
theorem dX11_tastes_1 : decode cX11_tastes 1 = .ok (.getfield 57, 3) := by decide +kernel
theorem dX11_tastes_4 : decode cX11_tastes 4 = .ok (.iconst 0, 1) := by decide +kernel
theorem dX11_tastes_5 : decode cX11_tastes 5 = .ok (.iload_n 1, 1) := by decide +kernel
theorem dX11_tastes_6 : decode cX11_tastes 6 = .ok (.invokevirtual 167, 3) := by decide +kernel
theorem dX11_tastes_9 : decode cX11_tastes 9 = .ok (.ifCond .ne 5, 3) := by decide +kernel
theorem dX11_tastes_12 : decode cX11_tastes 12 = .ok (.iconst (-1), 1) := by decide +kernel
theorem dX11_tastes_13 : decode cX11_tastes 13 = .ok (.ireturn, 1) := by decide +kernel
theorem dX11_tastes_14 : decode cX11_tastes 14 = .ok (.aload_n 0, 1) := by decide +kernel
theorem dX11_tastes_15 : decode cX11_tastes 15 = .ok (.getfield 106, 3) := by decide +kernel
theorem dX11_tastes_18 : decode cX11_tastes 18 = .ok (.aload_n 0, 1) := by decide +kernel
theorem dX11_tastes_19 : decode cX11_tastes 19 = .ok (.getfield 57, 3) := by decide +kernel
theorem dX11_tastes_22 : decode cX11_tastes 22 = .ok (.aload_n 0, 1) := by decide +kernel
theorem dX11_tastes_23 : decode cX11_tastes 23 = .ok (.getfield 26, 3) := by decide +kernel
theorem dX11_tastes_26 : decode cX11_tastes 26 = .ok (.iload_n 1, 1) := by decide +kernel
theorem dX11_tastes_27 : decode cX11_tastes 27 = .ok (.invokevirtual 254, 3) := by decide +kernel
theorem dX11_tastes_30 : decode cX11_tastes 30 = .ok (.ireturn, 1) := by decide +kernel
theorem dX11_tells_0 : decode cX11_tells 0 = .ok (.aload_n 0, 1) := by decide +kernel
theorem dX11_tells_1 : decode cX11_tells 1 = .ok (.getfield 57, 3) := by decide +kernel
theorem dX11_tells_4 : decode cX11_tells 4 = .ok (.iconst 0, 1) := by decide +kernel
theorem dX11_tells_5 : decode cX11_tells 5 = .ok (.iload_n 1, 1) := by decide +kernel
theorem dX11_tells_6 : decode cX11_tells 6 = .ok (.invokevirtual 167, 3) := by decide +kernel
theorem dX11_tells_9 : decode cX11_tells 9 = .ok (.ifCond .eq 37, 3) := by decide +kernel
theorem dX11_tells_12 : decode cX11_tells 12 = .ok (.iload_n 2, 1) := by decide +kernel
theorem dX11_tells_13 : decode cX11_tells 13 = .ok (.ifCond .lt 33, 3) := by decide +kernel
theorem dX11_tells_16 : decode cX11_tells 16 = .ok (.iload_n 2, 1) := by decide +kernel
theorem dX11_tells_17 : decode cX11_tells 17 = .ok (.iconst 2, 1) := by decide +kernel
theorem dX11_tells_18 : decode cX11_tells 18 = .ok (.if_icmp .gt 28, 3) := by decide +kernel
theorem dX11_tells_21 : decode cX11_tells 21 = .ok (.aload_n 0, 1) := by decide +kernel
theorem dX11_tells_22 : decode cX11_tells 22 = .ok (.getfield 57, 3) := by decide +kernel
theorem dX11_tells_25 : decode cX11_tells 25 = .ok (.getfield 145, 3) := by decide +kernel
theorem dX11_tells_28 : decode cX11_tells 28 = .ok (.iconst 2, 1) := by decide +kernel
theorem dX11_tells_29 : decode cX11_tells 29 = .ok (.iaload, 1) := by decide +kernel
theorem dX11_tells_30 : decode cX11_tells 30 = .ok (.ifCond .eq 16, 3) := by decide +kernel
theorem dX11_tells_33 : decode cX11_tells 33 = .ok (.aload_n 0, 1) := by decide +kernel
theorem dX11_tells_34 : decode cX11_tells 34 = .ok (.getfield 26, 3) := by decide +kernel
theorem dX11_tells_37 : decode cX11_tells 37 = .ok (.getfield 147, 3) := by decide +kernel
theorem dX11_tells_40 : decode cX11_tells 40 = .ok (.sipush 999, 3) := by decide +kernel
theorem dX11_tells_43 : decode cX11_tells 43 = .ok (.if_icmp .lt 5, 3) := by decide +kernel
theorem dX11_tells_46 : decode cX11_tells 46 = .ok (.iconst (-1), 1) := by decide +kernel
theorem dX11_tells_47 : decode cX11_tells 47 = .ok (.ireturn, 1) := by decide +kernel
theorem dX11_tells_48 : decode cX11_tells 48 = .ok (.aload_n 0, 1) := by decide +kernel
theorem dX11_tells_49 : decode cX11_tells 49 = .ok (.getfield 106, 3) := by decide +kernel
theorem dX11_tells_52 : decode cX11_tells 52 = .ok (.aload_n 0, 1) := by decide +kernel
theorem dX11_tells_53 : decode cX11_tells 53 = .ok (.getfield 57, 3) := by decide +kernel
theorem dX11_tells_56 : decode cX11_tells 56 = .ok (.aload_n 0, 1) := by decide +kernel
theorem dX11_tells_57 : decode cX11_tells 57 = .ok (.getfield 26, 3) := by decide +kernel
theorem dX11_tells_60 : decode cX11_tells 60 = .ok (.iload_n 1, 1) := by decide +kernel
theorem dX11_tells_61 : decode cX11_tells 61 = .ok (.invokevirtual 254, 3) := by decide +kernel
theorem dX11_tells_64 : decode cX11_tells 64 = .ok (.istore_n 3, 1) := by decide +kernel
theorem dX11_tells_65 : decode cX11_tells 65 = .ok (.iload_n 3, 1) := by decide +kernel
theorem dX11_tells_66 : decode cX11_tells 66 = .ok (.ifCond .ne 5, 3) := by decide +kernel
theorem dX11_tells_69 : decode cX11_tells 69 = .ok (.iconst (-1), 1) := by decide +kernel
theorem dX11_tells_70 : decode cX11_tells 70 = .ok (.ireturn, 1) := by decide +kernel
theorem dX11_tells_71 : decode cX11_tells 71 = .ok (.aload_n 0, 1) := by decide +kernel
theorem dX11_tells_72 : decode cX11_tells 72 = .ok (.getfield 106, 3) := by decide +kernel
theorem dX11_tells_75 : decode cX11_tells 75 = .ok (.aload_n 0, 1) := by decide +kernel
theorem dX11_tells_76 : decode cX11_tells 76 = .ok (.getfield 57, 3) := by decide +kernel
theorem dX11_tells_79 : decode cX11_tells 79 = .ok (.aload_n 0, 1) := by decide +kernel
theorem dX11_tells_80 : decode cX11_tells 80 = .ok (.getfield 26, 3) := by decide +kernel
theorem dX11_tells_83 : decode cX11_tells 83 = .ok (.iload_n 1, 1) := by decide +kernel
theorem dX11_tells_84 : decode cX11_tells 84 = .ok (.iload_n 3, 1) := by decide +kernel
theorem dX11_tells_85 : decode cX11_tells 85 = .ok (.invokevirtual 258, 3) := by decide +kernel
theorem dX11_tells_88 : decode cX11_tells 88 = .ok (.aload_n 0, 1) := by decide +kernel
theorem dX11_tells_89 : decode cX11_tells 89 = .ok (.getfield 106, 3) := by decide +kernel
theorem dX11_tells_92 : decode cX11_tells 92 = .ok (.aload_n 0, 1) := by decide +kernel
theorem dX11_tells_93 : decode cX11_tells 93 = .ok (.getfield 57, 3) := by decide +kernel
theorem dX11_tells_96 : decode cX11_tells 96 = .ok (.getfield 145, 3) := by decide +kernel
theorem dX11_tells_99 : decode cX11_tells 99 = .ok (.iconst 2, 1) := by decide +kernel
theorem dX11_tells_100 : decode cX11_tells 100 = .ok (.iaload, 1) := by decide +kernel
theorem dX11_tells_101 : decode cX11_tells 101 = .ok (.sipush 999, 3) := by decide +kernel
theorem dX11_tells_104 : decode cX11_tells 104 = .ok (.aload_n 0, 1) := by decide +kernel
theorem dX11_tells_105 : decode cX11_tells 105 = .ok (.getfield 26, 3) := by decide +kernel
theorem dX11_tells_108 : decode cX11_tells 108 = .ok (.getfield 147, 3) := by decide +kernel
theorem dX11_tells_111 : decode cX11_tells 111 = .ok (.isub, 1) := by decide +kernel
theorem dX11_tells_112 : decode cX11_tells 112 = .ok (.invokevirtual 261, 3) := by decide +kernel
theorem dX11_tells_115 : decode cX11_tells 115 = .ok (.iload_n 2, 1) := by decide +kernel
theorem dX11_tells_116 : decode cX11_tells 116 = .ok (.ifCond .ne 13, 3) := by decide +kernel
theorem dX11_tells_119 : decode cX11_tells 119 = .ok (.aload_n 0, 1) := by decide +kernel
theorem dX11_tells_120 : decode cX11_tells 120 = .ok (.getfield 106, 3) := by decide +kernel
theorem dX11_tells_123 : decode cX11_tells 123 = .ok (.getfield 265, 3) := by decide +kernel
theorem dX11_tells_126 : decode cX11_tells 126 = .ok (.goto 25, 3) := by decide +kernel
theorem dX11_tells_129 : decode cX11_tells 129 = .ok (.iload_n 2, 1) := by decide +kernel
theorem dX11_tells_130 : decode cX11_tells 130 = .ok (.iconst 1, 1) := by decide +kernel
theorem dX11_tells_131 : decode cX11_tells 131 = .ok (.if_icmp .ne 13, 3) := by decide +kernel
theorem dX11_tells_134 : decode cX11_tells 134 = .ok (.aload_n 0, 1) := by decide +kernel
theorem dX11_tells_135 : decode cX11_tells 135 = .ok (.getfield 106, 3) := by decide +kernel
theorem dX11_tells_138 : decode cX11_tells 138 = .ok (.getfield 268, 3) := by decide +kernel
theorem dX11_tells_141 : decode cX11_tells 141 = .ok (.goto 10, 3) := by decide +kernel
theorem dX11_tells_144 : decode cX11_tells 144 = .ok (.aload_n 0, 1) := by decide +kernel
theorem dX11_tells_145 : decode cX11_tells 145 = .ok (.getfield 106, 3) := by decide +kernel
theorem dX11_tells_148 : decode cX11_tells 148 = .ok (.getfield 271, 3) := by decide +kernel
theorem dX11_tells_151 : decode cX11_tells 151 = .ok (.ireturn, 1) := by decide +kernel
theorem dX11_years_0 : decode cX11_years 0 = .ok (.iload_n 1, 1) := by decide +kernel
theorem dX11_years_1 : decode cX11_years 1 = .ok (.iconst 1, 1) := by decide +kernel
theorem dX11_years_2 : decode cX11_years 2 = .ok (.if_icmp .lt 11, 3) := by decide +kernel
theorem dX11_years_5 : decode cX11_years 5 = .ok (.aload_n 0, 1) := by decide +kernel
theorem dX11_years_6 : decode cX11_years 6 = .ok (.iload_n 1, 1) := by decide +kernel
theorem dX11_years_7 : decode cX11_years 7 = .ok (.invokevirtual 227, 3) := by decide +kernel
theorem dX11_years_10 : decode cX11_years 10 = .ok (.ifCond .ne 9, 3) := by decide +kernel
theorem dX11_years_13 : decode cX11_years 13 = .ok (.aload_n 0, 1) := by decide +kernel
theorem dX11_years_14 : decode cX11_years 14 = .ok (.iconst 2, 1) := by decide +kernel
theorem dX11_years_15 : decode cX11_years 15 = .ok (.invokevirtual 117, 3) := by decide +kernel
theorem dX11_years_18 : decode cX11_years 18 = .ok (.ireturn, 1) := by decide +kernel
theorem dX11_years_19 : decode cX11_years 19 = .ok (.aload_n 0, 1) := by decide +kernel
theorem dX11_years_20 : decode cX11_years 20 = .ok (.getfield 36, 3) := by decide +kernel
theorem dX11_years_23 : decode cX11_years 23 = .ok (.aload_n 0, 1) := by decide +kernel
theorem dX11_years_24 : decode cX11_years 24 = .ok (.getfield 26, 3) := by decide +kernel
theorem dX11_years_27 : decode cX11_years 27 = .ok (.invokevirtual 274, 3) := by decide +kernel
theorem dX11_years_30 : decode cX11_years 30 = .ok (.iconst 0, 1) := by decide +kernel
theorem dX11_years_31 : decode cX11_years 31 = .ok (.istore_n 2, 1) := by decide +kernel
theorem dX11_years_32 : decode cX11_years 32 = .ok (.iconst 0, 1) := by decide +kernel
theorem dX11_years_33 : decode cX11_years 33 = .ok (.istore_n 3, 1) := by decide +kernel
theorem dX11_years_34 : decode cX11_years 34 = .ok (.iload_n 3, 1) := by decide +kernel
theorem dX11_years_35 : decode cX11_years 35 = .ok (.iload_n 1, 1) := by decide +kernel
theorem dX11_years_36 : decode cX11_years 36 = .ok (.if_icmp .ge 36, 3) := by decide +kernel
theorem dX11_years_39 : decode cX11_years 39 = .ok (.iload_n 2, 1) := by decide +kernel
theorem dX11_years_40 : decode cX11_years 40 = .ok (.aload_n 0, 1) := by decide +kernel
theorem dX11_years_41 : decode cX11_years 41 = .ok (.getfield 97, 3) := by decide +kernel
theorem dX11_years_44 : decode cX11_years 44 = .ok (.aload_n 0, 1) := by decide +kernel
theorem dX11_years_45 : decode cX11_years 45 = .ok (.getfield 57, 3) := by decide +kernel
theorem dX11_years_48 : decode cX11_years 48 = .ok (.aload_n 0, 1) := by decide +kernel
theorem dX11_years_49 : decode cX11_years 49 = .ok (.getfield 26, 3) := by decide +kernel
theorem dX11_years_52 : decode cX11_years 52 = .ok (.iconst (-1), 1) := by decide +kernel
theorem dX11_years_53 : decode cX11_years 53 = .ok (.invokevirtual 278, 3) := by decide +kernel
theorem dX11_years_56 : decode cX11_years 56 = .ok (.ifCond .eq 7, 3) := by decide +kernel
theorem dX11_years_59 : decode cX11_years 59 = .ok (.iconst 1, 1) := by decide +kernel
theorem dX11_years_60 : decode cX11_years 60 = .ok (.goto 4, 3) := by decide +kernel
theorem dX11_years_63 : decode cX11_years 63 = .ok (.iconst 0, 1) := by decide +kernel
theorem dX11_years_64 : decode cX11_years 64 = .ok (.iadd, 1) := by decide +kernel
theorem dX11_years_65 : decode cX11_years 65 = .ok (.istore_n 2, 1) := by decide +kernel
theorem dX11_years_66 : decode cX11_years 66 = .ok (.iinc 3 1, 3) := by decide +kernel
theorem dX11_years_69 : decode cX11_years 69 = .ok (.goto (-35), 3) := by decide +kernel
theorem dX11_years_72 : decode cX11_years 72 = .ok (.iload_n 2, 1) := by decide +kernel
theorem dX11_years_73 : decode cX11_years 73 = .ok (.ireturn, 1) := by decide +kernel
theorem dX11_chance_0 : decode cX11_chance 0 = .ok (.iload_n 1, 1) := by decide +kernel
theorem dX11_chance_1 : decode cX11_chance 1 = .ok (.iconst 1, 1) := by decide +kernel
theorem dX11_chance_2 : decode cX11_chance 2 = .ok (.if_icmp .lt 11, 3) := by decide +kernel
theorem dX11_chance_5 : decode cX11_chance 5 = .ok (.aload_n 0, 1) := by decide +kernel
theorem dX11_chance_6 : decode cX11_chance 6 = .ok (.iload_n 1, 1) := by decide +kernel
theorem dX11_chance_7 : decode cX11_chance 7 = .ok (.invokevirtual 227, 3) := by decide +kernel
theorem dX11_chance_10 : decode cX11_chance 10 = .ok (.ifCond .ne 9, 3) := by decide +kernel
theorem dX11_chance_13 : decode cX11_chance 13 = .ok (.aload_n 0, 1) := by decide +kernel
theorem dX11_chance_14 : decode cX11_chance 14 = .ok (.iconst 2, 1) := by decide +kernel
theorem dX11_chance_15 : decode cX11_chance 15 = .ok (.invokevirtual 117, 3) := by decide +kernel
theorem dX11_chance_18 : decode cX11_chance 18 = .ok (.ireturn, 1) := by decide +kernel
theorem dX11_chance_19 : decode cX11_chance 19 = .ok (.aload_n 0, 1) := by decide +kernel
theorem dX11_chance_20 : decode cX11_chance 20 = .ok (.getfield 36, 3) := by decide +kernel
theorem dX11_chance_23 : decode cX11_chance 23 = .ok (.aload_n 0, 1) := by decide +kernel
theorem dX11_chance_24 : decode cX11_chance 24 = .ok (.getfield 26, 3) := by decide +kernel
theorem dX11_chance_27 : decode cX11_chance 27 = .ok (.invokevirtual 274, 3) := by decide +kernel
theorem dX11_chance_30 : decode cX11_chance 30 = .ok (.iconst 0, 1) := by decide +kernel
theorem dX11_chance_31 : decode cX11_chance 31 = .ok (.istore_n 2, 1) := by decide +kernel
theorem dX11_chance_32 : decode cX11_chance 32 = .ok (.iconst 0, 1) := by decide +kernel
theorem dX11_chance_33 : decode cX11_chance 33 = .ok (.istore_n 3, 1) := by decide +kernel
theorem dX11_chance_34 : decode cX11_chance 34 = .ok (.iload_n 3, 1) := by decide +kernel
theorem dX11_chance_35 : decode cX11_chance 35 = .ok (.iload_n 1, 1) := by decide +kernel
theorem dX11_chance_36 : decode cX11_chance 36 = .ok (.if_icmp .ge 76, 3) := by decide +kernel
theorem dX11_chance_39 : decode cX11_chance 39 = .ok (.aload_n 0, 1) := by decide +kernel
theorem dX11_chance_40 : decode cX11_chance 40 = .ok (.bipush 100, 2) := by decide +kernel
theorem dX11_chance_42 : decode cX11_chance 42 = .ok (.invokevirtual 282, 3) := by decide +kernel
theorem dX11_chance_45 : decode cX11_chance 45 = .ok (.aload_n 0, 1) := by decide +kernel
theorem dX11_chance_46 : decode cX11_chance 46 = .ok (.getfield 57, 3) := by decide +kernel
theorem dX11_chance_49 : decode cX11_chance 49 = .ok (.getfield 285, 3) := by decide +kernel
theorem dX11_chance_52 : decode cX11_chance 52 = .ok (.if_icmp .ge 19, 3) := by decide +kernel
theorem dX11_chance_55 : decode cX11_chance 55 = .ok (.aload_n 0, 1) := by decide +kernel
theorem dX11_chance_56 : decode cX11_chance 56 = .ok (.aload_n 0, 1) := by decide +kernel
theorem dX11_chance_57 : decode cX11_chance 57 = .ok (.getfield 57, 3) := by decide +kernel
theorem dX11_chance_60 : decode cX11_chance 60 = .ok (.getfield 145, 3) := by decide +kernel
theorem dX11_chance_63 : decode cX11_chance 63 = .ok (.iconst 0, 1) := by decide +kernel
theorem dX11_chance_64 : decode cX11_chance 64 = .ok (.iaload, 1) := by decide +kernel
theorem dX11_chance_65 : decode cX11_chance 65 = .ok (.invokevirtual 282, 3) := by decide +kernel
theorem dX11_chance_68 : decode cX11_chance 68 = .ok (.goto 4, 3) := by decide +kernel
theorem dX11_chance_71 : decode cX11_chance 71 = .ok (.iconst (-1), 1) := by decide +kernel
theorem dX11_chance_72 : decode cX11_chance 72 = .ok (.istore 4, 2) := by decide +kernel
theorem dX11_chance_74 : decode cX11_chance 74 = .ok (.iload_n 2, 1) := by decide +kernel
theorem dX11_chance_75 : decode cX11_chance 75 = .ok (.iload 4, 2) := by decide +kernel
theorem dX11_chance_77 : decode cX11_chance 77 = .ok (.iconst (-1), 1) := by decide +kernel
theorem dX11_chance_78 : decode cX11_chance 78 = .ok (.if_icmp .ne 7, 3) := by decide +kernel
theorem dX11_chance_81 : decode cX11_chance 81 = .ok (.iconst 0, 1) := by decide +kernel
theorem dX11_chance_82 : decode cX11_chance 82 = .ok (.goto 4, 3) := by decide +kernel
theorem dX11_chance_85 : decode cX11_chance 85 = .ok (.iconst 1, 1) := by decide +kernel
theorem dX11_chance_86 : decode cX11_chance 86 = .ok (.iadd, 1) := by decide +kernel
theorem dX11_chance_87 : decode cX11_chance 87 = .ok (.istore_n 2, 1) := by decide +kernel
theorem dX11_chance_88 : decode cX11_chance 88 = .ok (.aload_n 0, 1) := by decide +kernel
theorem dX11_chance_89 : decode cX11_chance 89 = .ok (.getfield 97, 3) := by decide +kernel
theorem dX11_chance_92 : decode cX11_chance 92 = .ok (.aload_n 0, 1) := by decide +kernel
theorem dX11_chance_93 : decode cX11_chance 93 = .ok (.getfield 57, 3) := by decide +kernel
theorem dX11_chance_96 : decode cX11_chance 96 = .ok (.aload_n 0, 1) := by decide +kernel
theorem dX11_chance_97 : decode cX11_chance 97 = .ok (.getfield 26, 3) := by decide +kernel
theorem dX11_chance_100 : decode cX11_chance 100 = .ok (.iload 4, 2) := by decide +kernel
theorem dX11_chance_102 : decode cX11_chance 102 = .ok (.invokevirtual 278, 3) := by decide +kernel
theorem dX11_chance_105 : decode cX11_chance 105 = .ok (.pop, 1) := by decide +kernel
theorem dX11_chance_106 : decode cX11_chance 106 = .ok (.iinc 3 1, 3) := by decide +kernel
theorem dX11_chance_109 : decode cX11_chance 109 = .ok (.goto (-75), 3) := by decide +kernel
theorem dX11_chance_112 : decode cX11_chance 112 = .ok (.iload_n 2, 1) := by decide +kernel
theorem dX11_chance_113 : decode cX11_chance 113 = .ok (.ireturn, 1) := by decide +kernel
theorem dX11_paint_0 : decode cX11_paint 0 = .ok (.aload_n 0, 1) := by decide +kernel
theorem dX11_paint_1 : decode cX11_paint 1 = .ok (.getfield 57, 3) := by decide +kernel
theorem dX11_paint_4 : decode cX11_paint 4 = .ok (.iconst 2, 1) := by decide +kernel
theorem dX11_paint_5 : decode cX11_paint 5 = .ok (.iload_n 1, 1) := by decide +kernel
theorem dX11_paint_6 : decode cX11_paint 6 = .ok (.invokevirtual 167, 3) := by decide +kernel
theorem dX11_paint_9 : decode cX11_paint 9 = .ok (.ifCond .eq 33, 3) := by decide +kernel
theorem dX11_paint_12 : decode cX11_paint 12 = .ok (.iload_n 2, 1) := by decide +kernel
theorem dX11_paint_13 : decode cX11_paint 13 = .ok (.iconst (-1), 1) := by decide +kernel
theorem dX11_paint_14 : decode cX11_paint 14 = .ok (.if_icmp .eq 15, 3) := by decide +kernel
theorem dX11_paint_17 : decode cX11_paint 17 = .ok (.aload_n 0, 1) := by decide +kernel
theorem dX11_paint_18 : decode cX11_paint 18 = .ok (.getfield 57, 3) := by decide +kernel
theorem dX11_paint_21 : decode cX11_paint 21 = .ok (.iconst 1, 1) := by decide +kernel
theorem dX11_paint_22 : decode cX11_paint 22 = .ok (.iload_n 2, 1) := by decide +kernel
theorem dX11_paint_23 : decode cX11_paint 23 = .ok (.invokevirtual 167, 3) := by decide +kernel
theorem dX11_paint_26 : decode cX11_paint 26 = .ok (.ifCond .eq 16, 3) := by decide +kernel
theorem dX11_paint_29 : decode cX11_paint 29 = .ok (.aload_n 0, 1) := by decide +kernel
theorem dX11_paint_30 : decode cX11_paint 30 = .ok (.getfield 26, 3) := by decide +kernel
theorem dX11_paint_33 : decode cX11_paint 33 = .ok (.getfield 157, 3) := by decide +kernel
theorem dX11_paint_36 : decode cX11_paint 36 = .ok (.iload_n 1, 1) := by decide +kernel
theorem dX11_paint_37 : decode cX11_paint 37 = .ok (.iaload, 1) := by decide +kernel
theorem dX11_paint_38 : decode cX11_paint 38 = .ok (.iload_n 2, 1) := by decide +kernel
theorem dX11_paint_39 : decode cX11_paint 39 = .ok (.if_icmp .ne 9, 3) := by decide +kernel
theorem dX11_paint_42 : decode cX11_paint 42 = .ok (.aload_n 0, 1) := by decide +kernel
theorem dX11_paint_43 : decode cX11_paint 43 = .ok (.iconst 3, 1) := by decide +kernel
theorem dX11_paint_44 : decode cX11_paint 44 = .ok (.invokevirtual 125, 3) := by decide +kernel
theorem dX11_paint_47 : decode cX11_paint 47 = .ok (.ireturn, 1) := by decide +kernel
theorem dX11_paint_48 : decode cX11_paint 48 = .ok (.aload_n 0, 1) := by decide +kernel
theorem dX11_paint_49 : decode cX11_paint 49 = .ok (.getfield 36, 3) := by decide +kernel
theorem dX11_paint_52 : decode cX11_paint 52 = .ok (.aload_n 0, 1) := by decide +kernel
theorem dX11_paint_53 : decode cX11_paint 53 = .ok (.getfield 26, 3) := by decide +kernel
theorem dX11_paint_56 : decode cX11_paint 56 = .ok (.invokevirtual 274, 3) := by decide +kernel
theorem dX11_paint_59 : decode cX11_paint 59 = .ok (.aload_n 0, 1) := by decide +kernel
theorem dX11_paint_60 : decode cX11_paint 60 = .ok (.getfield 26, 3) := by decide +kernel
theorem dX11_paint_63 : decode cX11_paint 63 = .ok (.getfield 157, 3) := by decide +kernel
theorem dX11_paint_66 : decode cX11_paint 66 = .ok (.iload_n 1, 1) := by decide +kernel
theorem dX11_paint_67 : decode cX11_paint 67 = .ok (.iload_n 2, 1) := by decide +kernel
theorem dX11_paint_68 : decode cX11_paint 68 = .ok (.iastore, 1) := by decide +kernel
theorem dX11_paint_69 : decode cX11_paint 69 = .ok (.iconst 1, 1) := by decide +kernel
theorem dX11_paint_70 : decode cX11_paint 70 = .ok (.ireturn, 1) := by decide +kernel
theorem dX11_swap_0 : decode cX11_swap 0 = .ok (.iload_n 1, 1) := by decide +kernel
theorem dX11_swap_1 : decode cX11_swap 1 = .ok (.iload_n 2, 1) := by decide +kernel
theorem dX11_swap_2 : decode cX11_swap 2 = .ok (.if_icmp .eq 27, 3) := by decide +kernel
theorem dX11_swap_5 : decode cX11_swap 5 = .ok (.aload_n 0, 1) := by decide +kernel
theorem dX11_swap_6 : decode cX11_swap 6 = .ok (.getfield 57, 3) := by decide +kernel
theorem dX11_swap_9 : decode cX11_swap 9 = .ok (.iconst 0, 1) := by decide +kernel
theorem dX11_swap_10 : decode cX11_swap 10 = .ok (.iload_n 1, 1) := by decide +kernel
theorem dX11_swap_11 : decode cX11_swap 11 = .ok (.invokevirtual 167, 3) := by decide +kernel
theorem dX11_swap_14 : decode cX11_swap 14 = .ok (.ifCond .eq 15, 3) := by decide +kernel
theorem dX11_swap_17 : decode cX11_swap 17 = .ok (.aload_n 0, 1) := by decide +kernel
theorem dX11_swap_18 : decode cX11_swap 18 = .ok (.getfield 57, 3) := by decide +kernel
theorem dX11_swap_21 : decode cX11_swap 21 = .ok (.iconst 0, 1) := by decide +kernel
theorem dX11_swap_22 : decode cX11_swap 22 = .ok (.iload_n 2, 1) := by decide +kernel
theorem dX11_swap_23 : decode cX11_swap 23 = .ok (.invokevirtual 167, 3) := by decide +kernel
theorem dX11_swap_26 : decode cX11_swap 26 = .ok (.ifCond .ne 9, 3) := by decide +kernel
theorem dX11_swap_29 : decode cX11_swap 29 = .ok (.aload_n 0, 1) := by decide +kernel
theorem dX11_swap_30 : decode cX11_swap 30 = .ok (.iconst 3, 1) := by decide +kernel
theorem dX11_swap_31 : decode cX11_swap 31 = .ok (.invokevirtual 125, 3) := by decide +kernel
theorem dX11_swap_34 : decode cX11_swap 34 = .ok (.ireturn, 1) := by decide +kernel
theorem dX11_swap_35 : decode cX11_swap 35 = .ok (.aload_n 0, 1) := by decide +kernel
theorem dX11_swap_36 : decode cX11_swap 36 = .ok (.getfield 36, 3) := by decide +kernel
theorem dX11_swap_39 : decode cX11_swap 39 = .ok (.aload_n 0, 1) := by decide +kernel
theorem dX11_swap_40 : decode cX11_swap 40 = .ok (.getfield 26, 3) := by decide +kernel
theorem dX11_swap_43 : decode cX11_swap 43 = .ok (.invokevirtual 274, 3) := by decide +kernel
theorem dX11_swap_46 : decode cX11_swap 46 = .ok (.aload_n 0, 1) := by decide +kernel
theorem dX11_swap_47 : decode cX11_swap 47 = .ok (.getfield 26, 3) := by decide +kernel
theorem dX11_swap_50 : decode cX11_swap 50 = .ok (.getfield 213, 3) := by decide +kernel
theorem dX11_swap_53 : decode cX11_swap 53 = .ok (.iload_n 1, 1) := by decide +kernel
theorem dX11_swap_54 : decode cX11_swap 54 = .ok (.iaload, 1) := by decide +kernel
theorem dX11_swap_55 : decode cX11_swap 55 = .ok (.istore_n 3, 1) := by decide +kernel
theorem dX11_swap_56 : decode cX11_swap 56 = .ok (.aload_n 0, 1) := by decide +kernel
theorem dX11_swap_57 : decode cX11_swap 57 = .ok (.getfield 26, 3) := by decide +kernel
theorem dX11_swap_60 : decode cX11_swap 60 = .ok (.getfield 213, 3) := by decide +kernel
theorem dX11_swap_63 : decode cX11_swap 63 = .ok (.iload_n 1, 1) := by decide +kernel
theorem dX11_swap_64 : decode cX11_swap 64 = .ok (.aload_n 0, 1) := by decide +kernel
theorem dX11_swap_65 : decode cX11_swap 65 = .ok (.getfield 26, 3) := by decide +kernel
theorem dX11_swap_68 : decode cX11_swap 68 = .ok (.getfield 213, 3) := by decide +kernel
theorem dX11_swap_71 : decode cX11_swap 71 = .ok (.iload_n 2, 1) := by decide +kernel
theorem dX11_swap_72 : decode cX11_swap 72 = .ok (.iaload, 1) := by decide +kernel
theorem dX11_swap_73 : decode cX11_swap 73 = .ok (.iastore, 1) := by decide +kernel
theorem dX11_swap_74 : decode cX11_swap 74 = .ok (.aload_n 0, 1) := by decide +kernel
theorem dX11_swap_75 : decode cX11_swap 75 = .ok (.getfield 26, 3) := by decide +kernel
theorem dX11_swap_78 : decode cX11_swap 78 = .ok (.getfield 213, 3) := by decide +kernel
theorem dX11_swap_81 : decode cX11_swap 81 = .ok (.iload_n 2, 1) := by decide +kernel
theorem dX11_swap_82 : decode cX11_swap 82 = .ok (.iload_n 3, 1) := by decide +kernel
theorem dX11_swap_83 : decode cX11_swap 83 = .ok (.iastore, 1) := by decide +kernel
theorem dX11_swap_84 : decode cX11_swap 84 = .ok (.iconst 1, 1) := by decide +kernel
theorem dX11_swap_85 : decode cX11_swap 85 = .ok (.ireturn, 1) := by decide +kernel
theorem dX11_fill_0 : decode cX11_fill 0 = .ok (.iload_n 1, 1) := by decide +kernel
theorem dX11_fill_1 : decode cX11_fill 1 = .ok (.ifCond .lt 21, 3) := by decide +kernel
theorem dX11_fill_4 : decode cX11_fill 4 = .ok (.iload_n 1, 1) := by decide +kernel
theorem dX11_fill_5 : decode cX11_fill 5 = .ok (.sipush 9999, 3) := by decide +kernel
theorem dX11_fill_8 : decode cX11_fill 8 = .ok (.if_icmp .gt 14, 3) := by decide +kernel
theorem dX11_fill_11 : decode cX11_fill 11 = .ok (.iload_n 1, 1) := by decide +kernel
theorem dX11_fill_12 : decode cX11_fill 12 = .ok (.aload_n 0, 1) := by decide +kernel
theorem dX11_fill_13 : decode cX11_fill 13 = .ok (.getfield 26, 3) := by decide +kernel
theorem dX11_fill_16 : decode cX11_fill 16 = .ok (.getfield 150, 3) := by decide +kernel
theorem dX11_fill_19 : decode cX11_fill 19 = .ok (.if_icmp .ne 9, 3) := by decide +kernel
theorem dX11_fill_22 : decode cX11_fill 22 = .ok (.aload_n 0, 1) := by decide +kernel
theorem dX11_fill_23 : decode cX11_fill 23 = .ok (.iconst 3, 1) := by decide +kernel
theorem dX11_fill_24 : decode cX11_fill 24 = .ok (.invokevirtual 125, 3) := by decide +kernel
theorem dX11_fill_27 : decode cX11_fill 27 = .ok (.ireturn, 1) := by decide +kernel
theorem dX11_fill_28 : decode cX11_fill 28 = .ok (.aload_n 0, 1) := by decide +kernel
theorem dX11_fill_29 : decode cX11_fill 29 = .ok (.getfield 36, 3) := by decide +kernel
theorem dX11_fill_32 : decode cX11_fill 32 = .ok (.aload_n 0, 1) := by decide +kernel
theorem dX11_fill_33 : decode cX11_fill 33 = .ok (.getfield 26, 3) := by decide +kernel
theorem dX11_fill_36 : decode cX11_fill 36 = .ok (.invokevirtual 274, 3) := by decide +kernel
theorem dX11_fill_39 : decode cX11_fill 39 = .ok (.aload_n 0, 1) := by decide +kernel
theorem dX11_fill_40 : decode cX11_fill 40 = .ok (.getfield 26, 3) := by decide +kernel
theorem dX11_fill_43 : decode cX11_fill 43 = .ok (.iload_n 1, 1) := by decide +kernel
theorem dX11_fill_44 : decode cX11_fill 44 = .ok (.putfield 150, 3) := by decide +kernel
theorem dX11_fill_47 : decode cX11_fill 47 = .ok (.iconst 1, 1) := by decide +kernel
theorem dX11_fill_48 : decode cX11_fill 48 = .ok (.ireturn, 1) := by decide +kernel
theorem dX11_undo_0 : decode cX11_undo 0 = .ok (.aload_n 0, 1) := by decide +kernel
theorem dX11_undo_1 : decode cX11_undo 1 = .ok (.getfield 36, 3) := by decide +kernel
theorem dX11_undo_4 : decode cX11_undo 4 = .ok (.getfield 139, 3) := by decide +kernel
theorem dX11_undo_7 : decode cX11_undo 7 = .ok (.ifCond .ne 9, 3) := by decide +kernel
theorem dX11_undo_10 : decode cX11_undo 10 = .ok (.aload_n 0, 1) := by decide +kernel
theorem dX11_undo_11 : decode cX11_undo 11 = .ok (.iconst 4, 1) := by decide +kernel
theorem dX11_undo_12 : decode cX11_undo 12 = .ok (.invokevirtual 125, 3) := by decide +kernel
theorem dX11_undo_15 : decode cX11_undo 15 = .ok (.ireturn, 1) := by decide +kernel
theorem dX11_undo_16 : decode cX11_undo 16 = .ok (.aload_n 0, 1) := by decide +kernel
theorem dX11_undo_17 : decode cX11_undo 17 = .ok (.getfield 36, 3) := by decide +kernel
theorem dX11_undo_20 : decode cX11_undo 20 = .ok (.aload_n 0, 1) := by decide +kernel
theorem dX11_undo_21 : decode cX11_undo 21 = .ok (.getfield 26, 3) := by decide +kernel
theorem dX11_undo_24 : decode cX11_undo 24 = .ok (.invokevirtual 287, 3) := by decide +kernel
theorem dX11_undo_27 : decode cX11_undo 27 = .ok (.iconst 1, 1) := by decide +kernel
theorem dX11_undo_28 : decode cX11_undo 28 = .ok (.ireturn, 1) := by decide +kernel
theorem dX11_seed_0 : decode cX11_seed 0 = .ok (.iload_n 1, 1) := by decide +kernel
theorem dX11_seed_1 : decode cX11_seed 1 = .ok (.ifCond .ge 9, 3) := by decide +kernel
theorem dX11_seed_4 : decode cX11_seed 4 = .ok (.aload_n 0, 1) := by decide +kernel
theorem dX11_seed_5 : decode cX11_seed 5 = .ok (.iconst 5, 1) := by decide +kernel
theorem dX11_seed_6 : decode cX11_seed 6 = .ok (.invokevirtual 125, 3) := by decide +kernel
theorem dX11_seed_9 : decode cX11_seed 9 = .ok (.ireturn, 1) := by decide +kernel
theorem dX11_seed_10 : decode cX11_seed 10 = .ok (.aload_n 0, 1) := by decide +kernel
theorem dX11_seed_11 : decode cX11_seed 11 = .ok (.iload_n 1, 1) := by decide +kernel
theorem dX11_seed_12 : decode cX11_seed 12 = .ok (.putfield 71, 3) := by decide +kernel
theorem dX11_seed_15 : decode cX11_seed 15 = .ok (.iconst 1, 1) := by decide +kernel
theorem dX11_seed_16 : decode cX11_seed 16 = .ok (.ireturn, 1) := by decide +kernel
theorem dX11_kept_0 : decode cX11_kept 0 = .ok (.aload_n 0, 1) := by decide +kernel
theorem dX11_kept_1 : decode cX11_kept 1 = .ok (.getfield 26, 3) := by decide +kernel
theorem dX11_kept_4 : decode cX11_kept 4 = .ok (.iload_n 1, 1) := by decide +kernel
theorem dX11_kept_5 : decode cX11_kept 5 = .ok (.iload_n 2, 1) := by decide +kernel
theorem dX11_kept_6 : decode cX11_kept 6 = .ok (.invokevirtual 290, 3) := by decide +kernel
theorem dX11_kept_9 : decode cX11_kept 9 = .ok (.ireturn, 1) := by decide +kernel
theorem dX11_image_0 : decode cX11_image 0 = .ok (.aload_n 0, 1) := by decide +kernel
theorem dX11_image_1 : decode cX11_image 1 = .ok (.getfield 43, 3) := by decide +kernel
theorem dX11_image_4 : decode cX11_image 4 = .ok (.aload_n 0, 1) := by decide +kernel
theorem dX11_image_5 : decode cX11_image 5 = .ok (.getfield 57, 3) := by decide +kernel
theorem dX11_image_8 : decode cX11_image 8 = .ok (.aload_n 0, 1) := by decide +kernel
theorem dX11_image_9 : decode cX11_image 9 = .ok (.getfield 26, 3) := by decide +kernel
theorem dX11_image_12 : decode cX11_image 12 = .ok (.invokevirtual 293, 3) := by decide +kernel
theorem dX11_image_15 : decode cX11_image 15 = .ok (.aload_n 0, 1) := by decide +kernel
theorem dX11_image_16 : decode cX11_image 16 = .ok (.getfield 43, 3) := by decide +kernel
theorem dX11_image_19 : decode cX11_image 19 = .ok (.getfield 297, 3) := by decide +kernel
theorem dX11_image_22 : decode cX11_image 22 = .ok (.ireturn, 1) := by decide +kernel
theorem dX11_octet_0 : decode cX11_octet 0 = .ok (.aload_n 0, 1) := by decide +kernel
theorem dX11_octet_1 : decode cX11_octet 1 = .ok (.getfield 43, 3) := by decide +kernel
theorem dX11_octet_4 : decode cX11_octet 4 = .ok (.iload_n 1, 1) := by decide +kernel
theorem dX11_octet_5 : decode cX11_octet 5 = .ok (.invokevirtual 298, 3) := by decide +kernel
theorem dX11_octet_8 : decode cX11_octet 8 = .ok (.ireturn, 1) := by decide +kernel
theorem dX11_on_0 : decode cX11_on 0 = .ok (.aload_n 0, 1) := by decide +kernel
theorem dX11_on_1 : decode cX11_on 1 = .ok (.getfield 10, 3) := by decide +kernel
theorem dX11_on_4 : decode cX11_on 4 = .ok (.aload_n 0, 1) := by decide +kernel
theorem dX11_on_5 : decode cX11_on 5 = .ok (.getfield 57, 3) := by decide +kernel
theorem dX11_on_8 : decode cX11_on 8 = .ok (.invokestatic 301, 3) := by decide +kernel
theorem dX11_on_11 : decode cX11_on 11 = .ok (.istore_n 1, 1) := by decide +kernel
theorem dX11_on_12 : decode cX11_on 12 = .ok (.iload_n 1, 1) := by decide +kernel
theorem dX11_on_13 : decode cX11_on 13 = .ok (.ifCond .eq 26, 3) := by decide +kernel
theorem dX11_on_16 : decode cX11_on 16 = .ok (.aload_n 0, 1) := by decide +kernel
theorem dX11_on_17 : decode cX11_on 17 = .ok (.getfield 10, 3) := by decide +kernel
theorem dX11_on_20 : decode cX11_on 20 = .ok (.aload_n 0, 1) := by decide +kernel
theorem dX11_on_21 : decode cX11_on 21 = .ok (.getfield 57, 3) := by decide +kernel
theorem dX11_on_24 : decode cX11_on 24 = .ok (.aload_n 0, 1) := by decide +kernel
theorem dX11_on_25 : decode cX11_on 25 = .ok (.getfield 26, 3) := by decide +kernel
theorem dX11_on_28 : decode cX11_on 28 = .ok (.invokestatic 304, 3) := by decide +kernel
theorem dX11_on_31 : decode cX11_on 31 = .ok (.aload_n 0, 1) := by decide +kernel
theorem dX11_on_32 : decode cX11_on 32 = .ok (.getfield 36, 3) := by decide +kernel
theorem dX11_on_35 : decode cX11_on 35 = .ok (.iconst 0, 1) := by decide +kernel
theorem dX11_on_36 : decode cX11_on 36 = .ok (.putfield 139, 3) := by decide +kernel
theorem dX11_on_39 : decode cX11_on 39 = .ok (.aload_n 0, 1) := by decide +kernel
theorem dX11_on_40 : decode cX11_on 40 = .ok (.getfield 10, 3) := by decide +kernel
theorem dX11_on_43 : decode cX11_on 43 = .ok (.iconst 0, 1) := by decide +kernel
theorem dX11_on_44 : decode cX11_on 44 = .ok (.putfield 114, 3) := by decide +kernel
theorem dX11_on_47 : decode cX11_on 47 = .ok (.iload_n 1, 1) := by decide +kernel
theorem dX11_on_48 : decode cX11_on 48 = .ok (.ifCond .ne 11, 3) := by decide +kernel
theorem dX11_on_51 : decode cX11_on 51 = .ok (.aload_n 0, 1) := by decide +kernel
theorem dX11_on_52 : decode cX11_on 52 = .ok (.iconst 5, 1) := by decide +kernel
theorem dX11_on_53 : decode cX11_on 53 = .ok (.invokevirtual 125, 3) := by decide +kernel
theorem dX11_on_56 : decode cX11_on 56 = .ok (.ifCond .eq 7, 3) := by decide +kernel
theorem dX11_on_59 : decode cX11_on 59 = .ok (.iconst 1, 1) := by decide +kernel
theorem dX11_on_60 : decode cX11_on 60 = .ok (.goto 4, 3) := by decide +kernel
theorem dX11_on_63 : decode cX11_on 63 = .ok (.iconst 0, 1) := by decide +kernel
theorem dX11_on_64 : decode cX11_on 64 = .ok (.ireturn, 1) := by decide +kernel
theorem dX11_status_0 : decode cX11_status 0 = .ok (.iload_n 1, 1) := by decide +kernel
theorem dX11_status_1 : decode cX11_status 1 = .ok (.ifCond .lt 21, 3) := by decide +kernel
theorem dX11_status_4 : decode cX11_status 4 = .ok (.iload_n 1, 1) := by decide +kernel
theorem dX11_status_5 : decode cX11_status 5 = .ok (.aload_n 0, 1) := by decide +kernel
theorem dX11_status_6 : decode cX11_status 6 = .ok (.getfield 51, 3) := by decide +kernel
theorem dX11_status_9 : decode cX11_status 9 = .ok (.arraylength, 1) := by decide +kernel
theorem dX11_status_10 : decode cX11_status 10 = .ok (.if_icmp .ge 12, 3) := by decide +kernel
theorem dX11_status_13 : decode cX11_status 13 = .ok (.aload_n 0, 1) := by decide +kernel
theorem dX11_status_14 : decode cX11_status 14 = .ok (.getfield 51, 3) := by decide +kernel
theorem dX11_status_17 : decode cX11_status 17 = .ok (.iload_n 1, 1) := by decide +kernel
theorem dX11_status_18 : decode cX11_status 18 = .ok (.iaload, 1) := by decide +kernel
theorem dX11_status_19 : decode cX11_status 19 = .ok (.goto 4, 3) := by decide +kernel
theorem dX11_status_22 : decode cX11_status 22 = .ok (.iconst (-1), 1) := by decide +kernel
theorem dX11_status_23 : decode cX11_status 23 = .ok (.ireturn, 1) := by decide +kernel
theorem dX11_refuse_0 : decode cX11_refuse 0 = .ok (.iload_n 1, 1) := by decide +kernel
theorem dX11_refuse_1 : decode cX11_refuse 1 = .ok (.ifCond .lt 22, 3) := by decide +kernel
theorem dX11_refuse_4 : decode cX11_refuse 4 = .ok (.iload_n 1, 1) := by decide +kernel
theorem dX11_refuse_5 : decode cX11_refuse 5 = .ok (.aload_n 0, 1) := by decide +kernel
theorem dX11_refuse_6 : decode cX11_refuse 6 = .ok (.getfield 51, 3) := by decide +kernel
theorem dX11_refuse_9 : decode cX11_refuse 9 = .ok (.arraylength, 1) := by decide +kernel
theorem dX11_refuse_10 : decode cX11_refuse 10 = .ok (.if_icmp .ge 13, 3) := by decide +kernel
theorem dX11_refuse_13 : decode cX11_refuse 13 = .ok (.aload_n 0, 1) := by decide +kernel
theorem dX11_refuse_14 : decode cX11_refuse 14 = .ok (.getfield 51, 3) := by decide +kernel
theorem dX11_refuse_17 : decode cX11_refuse 17 = .ok (.iload_n 1, 1) := by decide +kernel
theorem dX11_refuse_18 : decode cX11_refuse 18 = .ok (.dup2, 1) := by decide +kernel
theorem dX11_refuse_19 : decode cX11_refuse 19 = .ok (.iaload, 1) := by decide +kernel
theorem dX11_refuse_20 : decode cX11_refuse 20 = .ok (.iconst 1, 1) := by decide +kernel
theorem dX11_refuse_21 : decode cX11_refuse 21 = .ok (.iadd, 1) := by decide +kernel
theorem dX11_refuse_22 : decode cX11_refuse 22 = .ok (.iastore, 1) := by decide +kernel
theorem dX11_refuse_23 : decode cX11_refuse 23 = .ok (.iconst (-1), 1) := by decide +kernel
theorem dX11_refuse_24 : decode cX11_refuse 24 = .ok (.ireturn, 1) := by decide +kernel
theorem dX11_refuseIt_0 : decode cX11_refuseIt 0 = .ok (.aload_n 0, 1) := by decide +kernel
theorem dX11_refuseIt_1 : decode cX11_refuseIt 1 = .ok (.iload_n 1, 1) := by decide +kernel
theorem dX11_refuseIt_2 : decode cX11_refuseIt 2 = .ok (.invokevirtual 117, 3) := by decide +kernel
theorem dX11_refuseIt_5 : decode cX11_refuseIt 5 = .ok (.pop, 1) := by decide +kernel
theorem dX11_refuseIt_6 : decode cX11_refuseIt 6 = .ok (.iconst 0, 1) := by decide +kernel
theorem dX11_refuseIt_7 : decode cX11_refuseIt 7 = .ok (.ireturn, 1) := by decide +kernel
theorem dX11_areThere_0 : decode cX11_areThere 0 = .ok (.aload_n 0, 1) := by decide +kernel
theorem dX11_areThere_1 : decode cX11_areThere 1 = .ok (.getfield 57, 3) := by decide +kernel
theorem dX11_areThere_4 : decode cX11_areThere 4 = .ok (.iconst 0, 1) := by decide +kernel
theorem dX11_areThere_5 : decode cX11_areThere 5 = .ok (.iload_n 1, 1) := by decide +kernel
theorem dX11_areThere_6 : decode cX11_areThere 6 = .ok (.invokevirtual 167, 3) := by decide +kernel
theorem dX11_areThere_9 : decode cX11_areThere 9 = .ok (.ifCond .eq 19, 3) := by decide +kernel
theorem dX11_areThere_12 : decode cX11_areThere 12 = .ok (.aload_n 0, 1) := by decide +kernel
theorem dX11_areThere_13 : decode cX11_areThere 13 = .ok (.getfield 57, 3) := by decide +kernel
theorem dX11_areThere_16 : decode cX11_areThere 16 = .ok (.iconst 2, 1) := by decide +kernel
theorem dX11_areThere_17 : decode cX11_areThere 17 = .ok (.iload_n 2, 1) := by decide +kernel
theorem dX11_areThere_18 : decode cX11_areThere 18 = .ok (.invokevirtual 167, 3) := by decide +kernel
theorem dX11_areThere_21 : decode cX11_areThere 21 = .ok (.ifCond .eq 7, 3) := by decide +kernel
theorem dX11_areThere_24 : decode cX11_areThere 24 = .ok (.iconst 1, 1) := by decide +kernel
theorem dX11_areThere_25 : decode cX11_areThere 25 = .ok (.goto 4, 3) := by decide +kernel
theorem dX11_areThere_28 : decode cX11_areThere 28 = .ok (.iconst 0, 1) := by decide +kernel
theorem dX11_areThere_29 : decode cX11_areThere 29 = .ok (.ireturn, 1) := by decide +kernel
theorem dX11_canPass_0 : decode cX11_canPass 0 = .ok (.iload_n 1, 1) := by decide +kernel
theorem dX11_canPass_1 : decode cX11_canPass 1 = .ok (.ifCond .lt 28, 3) := by decide +kernel
theorem dX11_canPass_4 : decode cX11_canPass 4 = .ok (.iload_n 1, 1) := by decide +kernel
theorem dX11_canPass_5 : decode cX11_canPass 5 = .ok (.bipush 40, 2) := by decide +kernel
theorem dX11_canPass_7 : decode cX11_canPass 7 = .ok (.if_icmp .gt 22, 3) := by decide +kernel
theorem dX11_canPass_10 : decode cX11_canPass 10 = .ok (.aload_n 0, 1) := by decide +kernel
theorem dX11_canPass_11 : decode cX11_canPass 11 = .ok (.getfield 26, 3) := by decide +kernel
theorem dX11_canPass_14 : decode cX11_canPass 14 = .ok (.getfield 147, 3) := by decide +kernel
theorem dX11_canPass_17 : decode cX11_canPass 17 = .ok (.iload_n 1, 1) := by decide +kernel
theorem dX11_canPass_18 : decode cX11_canPass 18 = .ok (.iadd, 1) := by decide +kernel
theorem dX11_canPass_19 : decode cX11_canPass 19 = .ok (.sipush 999, 3) := by decide +kernel
theorem dX11_canPass_22 : decode cX11_canPass 22 = .ok (.if_icmp .gt 7, 3) := by decide +kernel
theorem dX11_canPass_25 : decode cX11_canPass 25 = .ok (.iconst 1, 1) := by decide +kernel
theorem dX11_canPass_26 : decode cX11_canPass 26 = .ok (.goto 4, 3) := by decide +kernel
theorem dX11_canPass_29 : decode cX11_canPass 29 = .ok (.iconst 0, 1) := by decide +kernel
theorem dX11_canPass_30 : decode cX11_canPass 30 = .ok (.ireturn, 1) := by decide +kernel
theorem dX11_lookAhead_0 : decode cX11_lookAhead 0 = .ok (.aload_n 0, 1) := by decide +kernel
theorem dX11_lookAhead_1 : decode cX11_lookAhead 1 = .ok (.getfield 30, 3) := by decide +kernel
theorem dX11_lookAhead_4 : decode cX11_lookAhead 4 = .ok (.aload_n 0, 1) := by decide +kernel
theorem dX11_lookAhead_5 : decode cX11_lookAhead 5 = .ok (.getfield 26, 3) := by decide +kernel
theorem dX11_lookAhead_8 : decode cX11_lookAhead 8 = .ok (.invokevirtual 308, 3) := by decide +kernel
theorem dX11_lookAhead_11 : decode cX11_lookAhead 11 = .ok (.iconst 0, 1) := by decide +kernel
theorem dX11_lookAhead_12 : decode cX11_lookAhead 12 = .ok (.istore_n 2, 1) := by decide +kernel
theorem dX11_lookAhead_13 : decode cX11_lookAhead 13 = .ok (.iload_n 2, 1) := by decide +kernel
theorem dX11_lookAhead_14 : decode cX11_lookAhead 14 = .ok (.iload_n 1, 1) := by decide +kernel
theorem dX11_lookAhead_15 : decode cX11_lookAhead 15 = .ok (.if_icmp .ge 26, 3) := by decide +kernel
theorem dX11_lookAhead_18 : decode cX11_lookAhead 18 = .ok (.aload_n 0, 1) := by decide +kernel
theorem dX11_lookAhead_19 : decode cX11_lookAhead 19 = .ok (.getfield 97, 3) := by decide +kernel
theorem dX11_lookAhead_22 : decode cX11_lookAhead 22 = .ok (.aload_n 0, 1) := by decide +kernel
theorem dX11_lookAhead_23 : decode cX11_lookAhead 23 = .ok (.getfield 57, 3) := by decide +kernel
theorem dX11_lookAhead_26 : decode cX11_lookAhead 26 = .ok (.aload_n 0, 1) := by decide +kernel
theorem dX11_lookAhead_27 : decode cX11_lookAhead 27 = .ok (.getfield 30, 3) := by decide +kernel
theorem dX11_lookAhead_30 : decode cX11_lookAhead 30 = .ok (.iconst (-1), 1) := by decide +kernel
theorem dX11_lookAhead_31 : decode cX11_lookAhead 31 = .ok (.invokevirtual 278, 3) := by decide +kernel
theorem dX11_lookAhead_34 : decode cX11_lookAhead 34 = .ok (.pop, 1) := by decide +kernel
theorem dX11_lookAhead_35 : decode cX11_lookAhead 35 = .ok (.iinc 2 1, 3) := by decide +kernel
theorem dX11_lookAhead_38 : decode cX11_lookAhead 38 = .ok (.goto (-25), 3) := by decide +kernel
theorem dX11_lookAhead_41 : decode cX11_lookAhead 41 = .ok (.return_, 1) := by decide +kernel
theorem dX11_draw_0 : decode cX11_draw 0 = .ok (.iload_n 1, 1) := by decide +kernel
theorem dX11_draw_1 : decode cX11_draw 1 = .ok (.ifCond .gt 5, 3) := by decide +kernel
theorem dX11_draw_4 : decode cX11_draw 4 = .ok (.iconst (-1), 1) := by decide +kernel
theorem dX11_draw_5 : decode cX11_draw 5 = .ok (.ireturn, 1) := by decide +kernel
theorem dX11_draw_6 : decode cX11_draw 6 = .ok (.aload_n 0, 1) := by decide +kernel
theorem dX11_draw_7 : decode cX11_draw 7 = .ok (.ldc2_w 310, 3) := by decide +kernel
theorem dX11_draw_10 : decode cX11_draw 10 = .ok (.aload_n 0, 1) := by decide +kernel
theorem dX11_draw_11 : decode cX11_draw 11 = .ok (.getfield 71, 3) := by decide +kernel
theorem dX11_draw_14 : decode cX11_draw 14 = .ok (.i2l, 1) := by decide +kernel
theorem dX11_draw_15 : decode cX11_draw 15 = .ok (.lmul, 1) := by decide +kernel
theorem dX11_draw_16 : decode cX11_draw 16 = .ok (.ldc2_w 312, 3) := by decide +kernel
theorem dX11_draw_19 : decode cX11_draw 19 = .ok (.ladd, 1) := by decide +kernel
theorem dX11_draw_20 : decode cX11_draw 20 = .ok (.ldc2_w 314, 3) := by decide +kernel
theorem dX11_draw_23 : decode cX11_draw 23 = .ok (.land, 1) := by decide +kernel
theorem dX11_draw_24 : decode cX11_draw 24 = .ok (.l2i, 1) := by decide +kernel
theorem dX11_draw_25 : decode cX11_draw 25 = .ok (.putfield 71, 3) := by decide +kernel
theorem dX11_draw_28 : decode cX11_draw 28 = .ok (.aload_n 0, 1) := by decide +kernel
theorem dX11_draw_29 : decode cX11_draw 29 = .ok (.getfield 71, 3) := by decide +kernel
theorem dX11_draw_32 : decode cX11_draw 32 = .ok (.bipush 64, 2) := by decide +kernel
theorem dX11_draw_34 : decode cX11_draw 34 = .ok (.idiv, 1) := by decide +kernel
theorem dX11_draw_35 : decode cX11_draw 35 = .ok (.iload_n 1, 1) := by decide +kernel
theorem dX11_draw_36 : decode cX11_draw 36 = .ok (.irem, 1) := by decide +kernel
theorem dX11_draw_37 : decode cX11_draw 37 = .ok (.ireturn, 1) := by decide +kernel
theorem dX12_init_0 : decode cX12_init 0 = .ok (.aload_n 0, 1) := by decide +kernel
theorem dX12_init_1 : decode cX12_init 1 = .ok (.invokespecial 1, 3) := by decide +kernel
theorem dX12_init_4 : decode cX12_init 4 = .ok (.aload_n 0, 1) := by decide +kernel
theorem dX12_init_5 : decode cX12_init 5 = .ok (.sipush 1800, 3) := by decide +kernel
theorem dX12_init_8 : decode cX12_init 8 = .ok (.newarray .int, 2) := by decide +kernel
theorem dX12_init_10 : decode cX12_init 10 = .ok (.putfield 7, 3) := by decide +kernel
theorem dX12_init_13 : decode cX12_init 13 = .ok (.aload_n 0, 1) := by decide +kernel
theorem dX12_init_14 : decode cX12_init 14 = .ok (.iconst 0, 1) := by decide +kernel
theorem dX12_init_15 : decode cX12_init 15 = .ok (.putfield 13, 3) := by decide +kernel
theorem dX12_init_18 : decode cX12_init 18 = .ok (.aload_n 0, 1) := by decide +kernel
theorem dX12_init_19 : decode cX12_init 19 = .ok (.iconst 0, 1) := by decide +kernel
theorem dX12_init_20 : decode cX12_init 20 = .ok (.putfield 17, 3) := by decide +kernel
theorem dX12_init_23 : decode cX12_init 23 = .ok (.aload_n 0, 1) := by decide +kernel
theorem dX12_init_24 : decode cX12_init 24 = .ok (.iconst 0, 1) := by decide +kernel
theorem dX12_init_25 : decode cX12_init 25 = .ok (.putfield 20, 3) := by decide +kernel
theorem dX12_init_28 : decode cX12_init 28 = .ok (.aload_n 0, 1) := by decide +kernel
theorem dX12_init_29 : decode cX12_init 29 = .ok (.iconst 0, 1) := by decide +kernel
theorem dX12_init_30 : decode cX12_init 30 = .ok (.putfield 23, 3) := by decide +kernel
theorem dX12_init_33 : decode cX12_init 33 = .ok (.aload_n 0, 1) := by decide +kernel
theorem dX12_init_34 : decode cX12_init 34 = .ok (.iconst 0, 1) := by decide +kernel
theorem dX12_init_35 : decode cX12_init 35 = .ok (.putfield 26, 3) := by decide +kernel
theorem dX12_init_38 : decode cX12_init 38 = .ok (.aload_n 0, 1) := by decide +kernel
theorem dX12_init_39 : decode cX12_init 39 = .ok (.iconst 0, 1) := by decide +kernel
theorem dX12_init_40 : decode cX12_init 40 = .ok (.putfield 29, 3) := by decide +kernel
theorem dX12_init_43 : decode cX12_init 43 = .ok (.aload_n 0, 1) := by decide +kernel
theorem dX12_init_44 : decode cX12_init 44 = .ok (.lconst 0, 1) := by decide +kernel
theorem dX12_init_45 : decode cX12_init 45 = .ok (.putfield 32, 3) := by decide +kernel
theorem dX12_init_48 : decode cX12_init 48 = .ok (.aload_n 0, 1) := by decide +kernel
theorem dX12_init_49 : decode cX12_init 49 = .ok (.iconst 0, 1) := by decide +kernel
theorem dX12_init_50 : decode cX12_init 50 = .ok (.putfield 36, 3) := by decide +kernel
theorem dX12_init_53 : decode cX12_init 53 = .ok (.aload_n 0, 1) := by decide +kernel
theorem dX12_init_54 : decode cX12_init 54 = .ok (.iconst (-1), 1) := by decide +kernel
theorem dX12_init_55 : decode cX12_init 55 = .ok (.putfield 39, 3) := by decide +kernel
theorem dX12_init_58 : decode cX12_init 58 = .ok (.aload_n 0, 1) := by decide +kernel
theorem dX12_init_59 : decode cX12_init 59 = .ok (.iconst 0, 1) := by decide +kernel
theorem dX12_init_60 : decode cX12_init 60 = .ok (.putfield 42, 3) := by decide +kernel
theorem dX12_init_63 : decode cX12_init 63 = .ok (.aload_n 0, 1) := by decide +kernel
theorem dX12_init_64 : decode cX12_init 64 = .ok (.iconst (-1), 1) := by decide +kernel
theorem dX12_init_65 : decode cX12_init 65 = .ok (.putfield 45, 3) := by decide +kernel
theorem dX12_init_68 : decode cX12_init 68 = .ok (.aload_n 0, 1) := by decide +kernel
theorem dX12_init_69 : decode cX12_init 69 = .ok (.iconst (-1), 1) := by decide +kernel
theorem dX12_init_70 : decode cX12_init 70 = .ok (.putfield 48, 3) := by decide +kernel
theorem dX12_init_73 : decode cX12_init 73 = .ok (.aload_n 0, 1) := by decide +kernel
theorem dX12_init_74 : decode cX12_init 74 = .ok (.iconst 0, 1) := by decide +kernel
theorem dX12_init_75 : decode cX12_init 75 = .ok (.putfield 51, 3) := by decide +kernel
theorem dX12_init_78 : decode cX12_init 78 = .ok (.aload_n 0, 1) := by decide +kernel
theorem dX12_init_79 : decode cX12_init 79 = .ok (.iconst 2, 1) := by decide +kernel
theorem dX12_init_80 : decode cX12_init 80 = .ok (.newarray .int, 2) := by decide +kernel
theorem dX12_init_82 : decode cX12_init 82 = .ok (.putfield 54, 3) := by decide +kernel
theorem dX12_init_85 : decode cX12_init 85 = .ok (.aload_n 0, 1) := by decide +kernel
theorem dX12_init_86 : decode cX12_init 86 = .ok (.bipush 36, 2) := by decide +kernel
theorem dX12_init_88 : decode cX12_init 88 = .ok (.newarray .int, 2) := by decide +kernel
theorem dX12_init_90 : decode cX12_init 90 = .ok (.putfield 57, 3) := by decide +kernel
theorem dX12_init_93 : decode cX12_init 93 = .ok (.aload_n 0, 1) := by decide +kernel
theorem dX12_init_94 : decode cX12_init 94 = .ok (.iconst 2, 1) := by decide +kernel
theorem dX12_init_95 : decode cX12_init 95 = .ok (.newarray .int, 2) := by decide +kernel
theorem dX12_init_97 : decode cX12_init 97 = .ok (.putfield 60, 3) := by decide +kernel
theorem dX12_init_100 : decode cX12_init 100 = .ok (.aload_n 0, 1) := by decide +kernel
theorem dX12_init_101 : decode cX12_init 101 = .ok (.iconst 2, 1) := by decide +kernel
theorem dX12_init_102 : decode cX12_init 102 = .ok (.newarray .int, 2) := by decide +kernel
theorem dX12_init_104 : decode cX12_init 104 = .ok (.putfield 63, 3) := by decide +kernel
theorem dX12_init_107 : decode cX12_init 107 = .ok (.aload_n 0, 1) := by decide +kernel
theorem dX12_init_108 : decode cX12_init 108 = .ok (.bipush 36, 2) := by decide +kernel
theorem dX12_init_110 : decode cX12_init 110 = .ok (.newarray .int, 2) := by decide +kernel
theorem dX12_init_112 : decode cX12_init 112 = .ok (.putfield 66, 3) := by decide +kernel
theorem dX12_init_115 : decode cX12_init 115 = .ok (.aload_n 0, 1) := by decide +kernel
theorem dX12_init_116 : decode cX12_init 116 = .ok (.bipush 12, 2) := by decide +kernel
theorem dX12_init_118 : decode cX12_init 118 = .ok (.newarray .int, 2) := by decide +kernel
theorem dX12_init_120 : decode cX12_init 120 = .ok (.putfield 69, 3) := by decide +kernel
theorem dX12_init_123 : decode cX12_init 123 = .ok (.aload_n 0, 1) := by decide +kernel
theorem dX12_init_124 : decode cX12_init 124 = .ok (.iconst 2, 1) := by decide +kernel
theorem dX12_init_125 : decode cX12_init 125 = .ok (.newarray .int, 2) := by decide +kernel
theorem dX12_init_127 : decode cX12_init 127 = .ok (.putfield 72, 3) := by decide +kernel
theorem dX12_init_130 : decode cX12_init 130 = .ok (.aload_n 0, 1) := by decide +kernel
theorem dX12_init_131 : decode cX12_init 131 = .ok (.bipush 36, 2) := by decide +kernel
theorem dX12_init_133 : decode cX12_init 133 = .ok (.newarray .int, 2) := by decide +kernel
theorem dX12_init_135 : decode cX12_init 135 = .ok (.putfield 75, 3) := by decide +kernel
theorem dX12_init_138 : decode cX12_init 138 = .ok (.aload_n 0, 1) := by decide +kernel
theorem dX12_init_139 : decode cX12_init 139 = .ok (.bipush 12, 2) := by decide +kernel
theorem dX12_init_141 : decode cX12_init 141 = .ok (.newarray .int, 2) := by decide +kernel
theorem dX12_init_143 : decode cX12_init 143 = .ok (.putfield 78, 3) := by decide +kernel
theorem dX12_init_146 : decode cX12_init 146 = .ok (.aload_n 0, 1) := by decide +kernel
theorem dX12_init_147 : decode cX12_init 147 = .ok (.bipush 12, 2) := by decide +kernel
theorem dX12_init_149 : decode cX12_init 149 = .ok (.newarray .int, 2) := by decide +kernel
theorem dX12_init_151 : decode cX12_init 151 = .ok (.putfield 81, 3) := by decide +kernel
theorem dX12_init_154 : decode cX12_init 154 = .ok (.aload_n 0, 1) := by decide +kernel
theorem dX12_init_155 : decode cX12_init 155 = .ok (.iconst 2, 1) := by decide +kernel
theorem dX12_init_156 : decode cX12_init 156 = .ok (.newarray .int, 2) := by decide +kernel
theorem dX12_init_158 : decode cX12_init 158 = .ok (.putfield 84, 3) := by decide +kernel
theorem dX12_init_161 : decode cX12_init 161 = .ok (.aload_n 0, 1) := by decide +kernel
theorem dX12_init_162 : decode cX12_init 162 = .ok (.iconst 2, 1) := by decide +kernel
theorem dX12_init_163 : decode cX12_init 163 = .ok (.newarray .int, 2) := by decide +kernel
theorem dX12_init_165 : decode cX12_init 165 = .ok (.putfield 87, 3) := by decide +kernel
theorem dX12_init_168 : decode cX12_init 168 = .ok (.aload_n 0, 1) := by decide +kernel
theorem dX12_init_169 : decode cX12_init 169 = .ok (.bipush 6, 2) := by decide +kernel
theorem dX12_init_171 : decode cX12_init 171 = .ok (.newarray .int, 2) := by decide +kernel
theorem dX12_init_173 : decode cX12_init 173 = .ok (.putfield 90, 3) := by decide +kernel
theorem dX12_init_176 : decode cX12_init 176 = .ok (.aload_n 0, 1) := by decide +kernel
theorem dX12_init_177 : decode cX12_init 177 = .ok (.bipush 6, 2) := by decide +kernel
theorem dX12_init_179 : decode cX12_init 179 = .ok (.newarray .int, 2) := by decide +kernel
theorem dX12_init_181 : decode cX12_init 181 = .ok (.putfield 93, 3) := by decide +kernel
theorem dX12_init_184 : decode cX12_init 184 = .ok (.aload_n 0, 1) := by decide +kernel
theorem dX12_init_185 : decode cX12_init 185 = .ok (.sipush 3200, 3) := by decide +kernel
theorem dX12_init_188 : decode cX12_init 188 = .ok (.newarray .int, 2) := by decide +kernel
theorem dX12_init_190 : decode cX12_init 190 = .ok (.putfield 96, 3) := by decide +kernel
theorem dX12_init_193 : decode cX12_init 193 = .ok (.aload_n 0, 1) := by decide +kernel
theorem dX12_init_194 : decode cX12_init 194 = .ok (.sipush 3200, 3) := by decide +kernel
theorem dX12_init_197 : decode cX12_init 197 = .ok (.newarray .int, 2) := by decide +kernel
theorem dX12_init_199 : decode cX12_init 199 = .ok (.putfield 99, 3) := by decide +kernel
theorem dX12_init_202 : decode cX12_init 202 = .ok (.aload_n 0, 1) := by decide +kernel
theorem dX12_init_203 : decode cX12_init 203 = .ok (.bipush 36, 2) := by decide +kernel
theorem dX12_init_205 : decode cX12_init 205 = .ok (.newarray .long, 2) := by decide +kernel
theorem dX12_init_207 : decode cX12_init 207 = .ok (.putfield 102, 3) := by decide +kernel
theorem dX12_init_210 : decode cX12_init 210 = .ok (.aload_n 0, 1) := by decide +kernel
theorem dX12_init_211 : decode cX12_init 211 = .ok (.iconst 0, 1) := by decide +kernel
theorem dX12_init_212 : decode cX12_init 212 = .ok (.putfield 106, 3) := by decide +kernel
theorem dX12_init_215 : decode cX12_init 215 = .ok (.aload_n 0, 1) := by decide +kernel
theorem dX12_init_216 : decode cX12_init 216 = .ok (.iconst 1, 1) := by decide +kernel
theorem dX12_init_217 : decode cX12_init 217 = .ok (.putfield 109, 3) := by decide +kernel
theorem dX12_init_220 : decode cX12_init 220 = .ok (.aload_n 0, 1) := by decide +kernel
theorem dX12_init_221 : decode cX12_init 221 = .ok (.iconst 0, 1) := by decide +kernel
theorem dX12_init_222 : decode cX12_init 222 = .ok (.putfield 112, 3) := by decide +kernel
theorem dX12_init_225 : decode cX12_init 225 = .ok (.aload_n 0, 1) := by decide +kernel
theorem dX12_init_226 : decode cX12_init 226 = .ok (.bipush 20, 2) := by decide +kernel
theorem dX12_init_228 : decode cX12_init 228 = .ok (.newarray .int, 2) := by decide +kernel
theorem dX12_init_230 : decode cX12_init 230 = .ok (.putfield 115, 3) := by decide +kernel
theorem dX12_init_233 : decode cX12_init 233 = .ok (.aload_n 0, 1) := by decide +kernel
theorem dX12_init_234 : decode cX12_init 234 = .ok (.bipush 20, 2) := by decide +kernel
theorem dX12_init_236 : decode cX12_init 236 = .ok (.newarray .int, 2) := by decide +kernel
theorem dX12_init_238 : decode cX12_init 238 = .ok (.putfield 118, 3) := by decide +kernel
theorem dX12_init_241 : decode cX12_init 241 = .ok (.aload_n 0, 1) := by decide +kernel
theorem dX12_init_242 : decode cX12_init 242 = .ok (.bipush 20, 2) := by decide +kernel
theorem dX12_init_244 : decode cX12_init 244 = .ok (.newarray .boolean, 2) := by decide +kernel
theorem dX12_init_246 : decode cX12_init 246 = .ok (.putfield 121, 3) := by decide +kernel
theorem dX12_init_249 : decode cX12_init 249 = .ok (.aload_n 0, 1) := by decide +kernel
theorem dX12_init_250 : decode cX12_init 250 = .ok (.bipush 20, 2) := by decide +kernel
theorem dX12_init_252 : decode cX12_init 252 = .ok (.newarray .int, 2) := by decide +kernel
theorem dX12_init_254 : decode cX12_init 254 = .ok (.putfield 125, 3) := by decide +kernel
theorem dX12_init_257 : decode cX12_init 257 = .ok (.aload_n 0, 1) := by decide +kernel
theorem dX12_init_258 : decode cX12_init 258 = .ok (.bipush 20, 2) := by decide +kernel
theorem dX12_init_260 : decode cX12_init 260 = .ok (.newarray .int, 2) := by decide +kernel
theorem dX12_init_262 : decode cX12_init 262 = .ok (.putfield 128, 3) := by decide +kernel
theorem dX12_init_265 : decode cX12_init 265 = .ok (.aload_n 0, 1) := by decide +kernel
theorem dX12_init_266 : decode cX12_init 266 = .ok (.iconst 0, 1) := by decide +kernel
theorem dX12_init_267 : decode cX12_init 267 = .ok (.putfield 131, 3) := by decide +kernel
theorem dX12_init_270 : decode cX12_init 270 = .ok (.aload_n 0, 1) := by decide +kernel
theorem dX12_init_271 : decode cX12_init 271 = .ok (.iconst 0, 1) := by decide +kernel
theorem dX12_init_272 : decode cX12_init 272 = .ok (.putfield 134, 3) := by decide +kernel
theorem dX12_init_275 : decode cX12_init 275 = .ok (.aload_n 0, 1) := by decide +kernel
theorem dX12_init_276 : decode cX12_init 276 = .ok (.sipush 500, 3) := by decide +kernel
theorem dX12_init_279 : decode cX12_init 279 = .ok (.newarray .int, 2) := by decide +kernel
theorem dX12_init_281 : decode cX12_init 281 = .ok (.putfield 137, 3) := by decide +kernel
theorem dX12_init_284 : decode cX12_init 284 = .ok (.aload_n 0, 1) := by decide +kernel
theorem dX12_init_285 : decode cX12_init 285 = .ok (.iconst 0, 1) := by decide +kernel
theorem dX12_init_286 : decode cX12_init 286 = .ok (.putfield 140, 3) := by decide +kernel
theorem dX12_init_289 : decode cX12_init 289 = .ok (.aload_n 0, 1) := by decide +kernel
theorem dX12_init_290 : decode cX12_init 290 = .ok (.iconst 0, 1) := by decide +kernel
theorem dX12_init_291 : decode cX12_init 291 = .ok (.putfield 143, 3) := by decide +kernel
theorem dX12_init_294 : decode cX12_init 294 = .ok (.aload_n 0, 1) := by decide +kernel
theorem dX12_init_295 : decode cX12_init 295 = .ok (.bipush 6, 2) := by decide +kernel
theorem dX12_init_297 : decode cX12_init 297 = .ok (.newarray .int, 2) := by decide +kernel
theorem dX12_init_299 : decode cX12_init 299 = .ok (.putfield 147, 3) := by decide +kernel
theorem dX12_init_302 : decode cX12_init 302 = .ok (.aload_n 0, 1) := by decide +kernel
theorem dX12_init_303 : decode cX12_init 303 = .ok (.bipush 22, 2) := by decide +kernel
theorem dX12_init_305 : decode cX12_init 305 = .ok (.newarray .int, 2) := by decide +kernel
theorem dX12_init_307 : decode cX12_init 307 = .ok (.putfield 150, 3) := by decide +kernel
theorem dX12_init_310 : decode cX12_init 310 = .ok (.aload_n 0, 1) := by decide +kernel
theorem dX12_init_311 : decode cX12_init 311 = .ok (.bipush 22, 2) := by decide +kernel
theorem dX12_init_313 : decode cX12_init 313 = .ok (.newarray .int, 2) := by decide +kernel
theorem dX12_init_315 : decode cX12_init 315 = .ok (.putfield 153, 3) := by decide +kernel
theorem dX12_init_318 : decode cX12_init 318 = .ok (.aload_n 0, 1) := by decide +kernel
theorem dX12_init_319 : decode cX12_init 319 = .ok (.sipush 132, 3) := by decide +kernel
theorem dX12_init_322 : decode cX12_init 322 = .ok (.newarray .int, 2) := by decide +kernel
theorem dX12_init_324 : decode cX12_init 324 = .ok (.putfield 156, 3) := by decide +kernel
theorem dX12_init_327 : decode cX12_init 327 = .ok (.aload_n 0, 1) := by decide +kernel
theorem dX12_init_328 : decode cX12_init 328 = .ok (.sipush 132, 3) := by decide +kernel
theorem dX12_init_331 : decode cX12_init 331 = .ok (.newarray .int, 2) := by decide +kernel
theorem dX12_init_333 : decode cX12_init 333 = .ok (.putfield 159, 3) := by decide +kernel
theorem dX12_init_336 : decode cX12_init 336 = .ok (.aload_n 0, 1) := by decide +kernel
theorem dX12_init_337 : decode cX12_init 337 = .ok (.sipush 132, 3) := by decide +kernel
theorem dX12_init_340 : decode cX12_init 340 = .ok (.newarray .int, 2) := by decide +kernel
theorem dX12_init_342 : decode cX12_init 342 = .ok (.putfield 162, 3) := by decide +kernel
theorem dX12_init_345 : decode cX12_init 345 = .ok (.aload_n 0, 1) := by decide +kernel
theorem dX12_init_346 : decode cX12_init 346 = .ok (.bipush 22, 2) := by decide +kernel
theorem dX12_init_348 : decode cX12_init 348 = .ok (.newarray .int, 2) := by decide +kernel
theorem dX12_init_350 : decode cX12_init 350 = .ok (.putfield 165, 3) := by decide +kernel
theorem dX12_init_353 : decode cX12_init 353 = .ok (.aload_n 0, 1) := by decide +kernel
theorem dX12_init_354 : decode cX12_init 354 = .ok (.sipush 2640, 3) := by decide +kernel
theorem dX12_init_357 : decode cX12_init 357 = .ok (.newarray .int, 2) := by decide +kernel
theorem dX12_init_359 : decode cX12_init 359 = .ok (.putfield 168, 3) := by decide +kernel
theorem dX12_init_362 : decode cX12_init 362 = .ok (.aload_n 0, 1) := by decide +kernel
theorem dX12_init_363 : decode cX12_init 363 = .ok (.iconst 0, 1) := by decide +kernel
theorem dX12_init_364 : decode cX12_init 364 = .ok (.putfield 171, 3) := by decide +kernel
theorem dX12_init_367 : decode cX12_init 367 = .ok (.aload_n 0, 1) := by decide +kernel
theorem dX12_init_368 : decode cX12_init 368 = .ok (.iconst 0, 1) := by decide +kernel
theorem dX12_init_369 : decode cX12_init 369 = .ok (.putfield 174, 3) := by decide +kernel
theorem dX12_init_372 : decode cX12_init 372 = .ok (.aload_n 0, 1) := by decide +kernel
theorem dX12_init_373 : decode cX12_init 373 = .ok (.lconst 1, 1) := by decide +kernel
theorem dX12_init_374 : decode cX12_init 374 = .ok (.putfield 177, 3) := by decide +kernel
theorem dX12_init_377 : decode cX12_init 377 = .ok (.aload_n 0, 1) := by decide +kernel
theorem dX12_init_378 : decode cX12_init 378 = .ok (.bipush 18, 2) := by decide +kernel
theorem dX12_init_380 : decode cX12_init 380 = .ok (.newarray .int, 2) := by decide +kernel
theorem dX12_init_382 : decode cX12_init 382 = .ok (.putfield 180, 3) := by decide +kernel
theorem dX12_init_385 : decode cX12_init 385 = .ok (.aload_n 0, 1) := by decide +kernel
theorem dX12_init_386 : decode cX12_init 386 = .ok (.sipush 500, 3) := by decide +kernel
theorem dX12_init_389 : decode cX12_init 389 = .ok (.newarray .long, 2) := by decide +kernel
theorem dX12_init_391 : decode cX12_init 391 = .ok (.putfield 183, 3) := by decide +kernel
theorem dX12_init_394 : decode cX12_init 394 = .ok (.aload_n 0, 1) := by decide +kernel
theorem dX12_init_395 : decode cX12_init 395 = .ok (.bipush 12, 2) := by decide +kernel
theorem dX12_init_397 : decode cX12_init 397 = .ok (.newarray .int, 2) := by decide +kernel
theorem dX12_init_399 : decode cX12_init 399 = .ok (.putfield 186, 3) := by decide +kernel
theorem dX12_init_402 : decode cX12_init 402 = .ok (.aload_n 0, 1) := by decide +kernel
theorem dX12_init_403 : decode cX12_init 403 = .ok (.bipush 6, 2) := by decide +kernel
theorem dX12_init_405 : decode cX12_init 405 = .ok (.newarray .int, 2) := by decide +kernel
theorem dX12_init_407 : decode cX12_init 407 = .ok (.putfield 189, 3) := by decide +kernel
theorem dX12_init_410 : decode cX12_init 410 = .ok (.aload_n 0, 1) := by decide +kernel
theorem dX12_init_411 : decode cX12_init 411 = .ok (.bipush 6, 2) := by decide +kernel
theorem dX12_init_413 : decode cX12_init 413 = .ok (.newarray .int, 2) := by decide +kernel
theorem dX12_init_415 : decode cX12_init 415 = .ok (.putfield 192, 3) := by decide +kernel
theorem dX12_init_418 : decode cX12_init 418 = .ok (.aload_n 0, 1) := by decide +kernel
theorem dX12_init_419 : decode cX12_init 419 = .ok (.bipush 6, 2) := by decide +kernel
theorem dX12_init_421 : decode cX12_init 421 = .ok (.newarray .int, 2) := by decide +kernel
theorem dX12_init_423 : decode cX12_init 423 = .ok (.putfield 195, 3) := by decide +kernel
theorem dX12_init_426 : decode cX12_init 426 = .ok (.aload_n 0, 1) := by decide +kernel
theorem dX12_init_427 : decode cX12_init 427 = .ok (.bipush 6, 2) := by decide +kernel
theorem dX12_init_429 : decode cX12_init 429 = .ok (.newarray .int, 2) := by decide +kernel
theorem dX12_init_431 : decode cX12_init 431 = .ok (.putfield 198, 3) := by decide +kernel
theorem dX12_init_434 : decode cX12_init 434 = .ok (.aload_n 0, 1) := by decide +kernel
theorem dX12_init_435 : decode cX12_init 435 = .ok (.iconst 0, 1) := by decide +kernel
theorem dX12_init_436 : decode cX12_init 436 = .ok (.putfield 201, 3) := by decide +kernel
theorem dX12_init_439 : decode cX12_init 439 = .ok (.aload_n 0, 1) := by decide +kernel
theorem dX12_init_440 : decode cX12_init 440 = .ok (.bipush 16, 2) := by decide +kernel
theorem dX12_init_442 : decode cX12_init 442 = .ok (.newarray .int, 2) := by decide +kernel
theorem dX12_init_444 : decode cX12_init 444 = .ok (.putfield 204, 3) := by decide +kernel
theorem dX12_init_447 : decode cX12_init 447 = .ok (.aload_n 0, 1) := by decide +kernel
theorem dX12_init_448 : decode cX12_init 448 = .ok (.bipush 16, 2) := by decide +kernel
theorem dX12_init_450 : decode cX12_init 450 = .ok (.newarray .int, 2) := by decide +kernel
theorem dX12_init_452 : decode cX12_init 452 = .ok (.putfield 207, 3) := by decide +kernel
theorem dX12_init_455 : decode cX12_init 455 = .ok (.aload_n 0, 1) := by decide +kernel
theorem dX12_init_456 : decode cX12_init 456 = .ok (.bipush 16, 2) := by decide +kernel
theorem dX12_init_458 : decode cX12_init 458 = .ok (.newarray .int, 2) := by decide +kernel
theorem dX12_init_460 : decode cX12_init 460 = .ok (.putfield 210, 3) := by decide +kernel
theorem dX12_init_463 : decode cX12_init 463 = .ok (.aload_n 0, 1) := by decide +kernel
theorem dX12_init_464 : decode cX12_init 464 = .ok (.sipush 1860, 3) := by decide +kernel
theorem dX12_init_467 : decode cX12_init 467 = .ok (.newarray .int, 2) := by decide +kernel
theorem dX12_init_469 : decode cX12_init 469 = .ok (.putfield 213, 3) := by decide +kernel
theorem dX12_init_472 : decode cX12_init 472 = .ok (.aload_n 0, 1) := by decide +kernel
theorem dX12_init_473 : decode cX12_init 473 = .ok (.bipush 30, 2) := by decide +kernel
theorem dX12_init_475 : decode cX12_init 475 = .ok (.newarray .int, 2) := by decide +kernel
theorem dX12_init_477 : decode cX12_init 477 = .ok (.putfield 216, 3) := by decide +kernel
theorem dX12_init_480 : decode cX12_init 480 = .ok (.aload_n 0, 1) := by decide +kernel
theorem dX12_init_481 : decode cX12_init 481 = .ok (.iconst 0, 1) := by decide +kernel
theorem dX12_init_482 : decode cX12_init 482 = .ok (.putfield 219, 3) := by decide +kernel
theorem dX12_init_485 : decode cX12_init 485 = .ok (.iconst 0, 1) := by decide +kernel
theorem dX12_init_486 : decode cX12_init 486 = .ok (.istore_n 1, 1) := by decide +kernel
theorem dX12_init_487 : decode cX12_init 487 = .ok (.iload_n 1, 1) := by decide +kernel
theorem dX12_init_488 : decode cX12_init 488 = .ok (.bipush 6, 2) := by decide +kernel
theorem dX12_init_490 : decode cX12_init 490 = .ok (.if_icmp .ge 16, 3) := by decide +kernel
theorem dX12_init_493 : decode cX12_init 493 = .ok (.aload_n 0, 1) := by decide +kernel
theorem dX12_init_494 : decode cX12_init 494 = .ok (.getfield 90, 3) := by decide +kernel
theorem dX12_init_497 : decode cX12_init 497 = .ok (.iload_n 1, 1) := by decide +kernel
theorem dX12_init_498 : decode cX12_init 498 = .ok (.iconst (-1), 1) := by decide +kernel
theorem dX12_init_499 : decode cX12_init 499 = .ok (.iastore, 1) := by decide +kernel
theorem dX12_init_500 : decode cX12_init 500 = .ok (.iinc 1 1, 3) := by decide +kernel
theorem dX12_init_503 : decode cX12_init 503 = .ok (.goto (-16), 3) := by decide +kernel
theorem dX12_init_506 : decode cX12_init 506 = .ok (.return_, 1) := by decide +kernel
theorem dX12_is_0 : decode cX12_is 0 = .ok (.iload_n 0, 1) := by decide +kernel
theorem dX12_is_1 : decode cX12_is 1 = .ok (.iload_n 1, 1) := by decide +kernel
theorem dX12_is_2 : decode cX12_is 2 = .ok (.if_icmp .lt 12, 3) := by decide +kernel
theorem dX12_is_5 : decode cX12_is 5 = .ok (.iload_n 0, 1) := by decide +kernel
theorem dX12_is_6 : decode cX12_is 6 = .ok (.iload_n 2, 1) := by decide +kernel
theorem dX12_is_7 : decode cX12_is 7 = .ok (.if_icmp .gt 7, 3) := by decide +kernel
theorem dX12_is_10 : decode cX12_is 10 = .ok (.iconst 1, 1) := by decide +kernel
theorem dX12_is_11 : decode cX12_is 11 = .ok (.goto 4, 3) := by decide +kernel
theorem dX12_is_14 : decode cX12_is 14 = .ok (.iconst 0, 1) := by decide +kernel
theorem dX12_is_15 : decode cX12_is 15 = .ok (.ireturn, 1) := by decide +kernel
theorem dX12_put_0 : decode cX12_put 0 = .ok (.bipush 24, 2) := by decide +kernel
theorem dX12_put_2 : decode cX12_put 2 = .ok (.istore_n 2, 1) := by decide +kernel
theorem dX12_put_3 : decode cX12_put 3 = .ok (.iload_n 2, 1) := by decide +kernel
theorem dX12_put_4 : decode cX12_put 4 = .ok (.ifCond .lt 35, 3) := by decide +kernel
theorem dX12_put_7 : decode cX12_put 7 = .ok (.aload_n 0, 1) := by decide +kernel
theorem dX12_put_8 : decode cX12_put 8 = .ok (.getfield 7, 3) := by decide +kernel
theorem dX12_put_11 : decode cX12_put 11 = .ok (.aload_n 0, 1) := by decide +kernel
theorem dX12_put_12 : decode cX12_put 12 = .ok (.getfield 13, 3) := by decide +kernel
theorem dX12_put_15 : decode cX12_put 15 = .ok (.iload_n 1, 1) := by decide +kernel
theorem dX12_put_16 : decode cX12_put 16 = .ok (.iload_n 2, 1) := by decide +kernel
theorem dX12_put_17 : decode cX12_put 17 = .ok (.ishr, 1) := by decide +kernel
theorem dX12_put_18 : decode cX12_put 18 = .ok (.sipush 255, 3) := by decide +kernel
theorem dX12_put_21 : decode cX12_put 21 = .ok (.iand, 1) := by decide +kernel
theorem dX12_put_22 : decode cX12_put 22 = .ok (.iastore, 1) := by decide +kernel
theorem dX12_put_23 : decode cX12_put 23 = .ok (.aload_n 0, 1) := by decide +kernel
theorem dX12_put_24 : decode cX12_put 24 = .ok (.dup, 1) := by decide +kernel
theorem dX12_put_25 : decode cX12_put 25 = .ok (.getfield 13, 3) := by decide +kernel
theorem dX12_put_28 : decode cX12_put 28 = .ok (.iconst 1, 1) := by decide +kernel
theorem dX12_put_29 : decode cX12_put 29 = .ok (.iadd, 1) := by decide +kernel
theorem dX12_put_30 : decode cX12_put 30 = .ok (.putfield 13, 3) := by decide +kernel
theorem dX12_put_33 : decode cX12_put 33 = .ok (.iinc 2 (-8), 3) := by decide +kernel
theorem dX12_put_36 : decode cX12_put 36 = .ok (.goto (-33), 3) := by decide +kernel
theorem dX12_put_39 : decode cX12_put 39 = .ok (.return_, 1) := by decide +kernel
theorem dX12_feed_0 : decode cX12_feed 0 = .ok (.aload_n 0, 1) := by decide +kernel
theorem dX12_feed_1 : decode cX12_feed 1 = .ok (.getfield 13, 3) := by decide +kernel
theorem dX12_feed_4 : decode cX12_feed 4 = .ok (.bipush 20, 2) := by decide +kernel
theorem dX12_feed_6 : decode cX12_feed 6 = .ok (.iadd, 1) := by decide +kernel
theorem dX12_feed_7 : decode cX12_feed 7 = .ok (.sipush 1600, 3) := by decide +kernel
theorem dX12_feed_10 : decode cX12_feed 10 = .ok (.if_icmp .le 9, 3) := by decide +kernel
theorem dX12_feed_13 : decode cX12_feed 13 = .ok (.aload_n 0, 1) := by decide +kernel
theorem dX12_feed_14 : decode cX12_feed 14 = .ok (.iconst 0, 1) := by decide +kernel
theorem dX12_feed_15 : decode cX12_feed 15 = .ok (.invokevirtual 222, 3) := by decide +kernel
theorem dX12_feed_18 : decode cX12_feed 18 = .ok (.ireturn, 1) := by decide +kernel
theorem dX12_feed_19 : decode cX12_feed 19 = .ok (.aload_n 0, 1) := by decide +kernel
theorem dX12_feed_20 : decode cX12_feed 20 = .ok (.iload_n 1, 1) := by decide +kernel
theorem dX12_feed_21 : decode cX12_feed 21 = .ok (.invokevirtual 226, 3) := by decide +kernel
theorem dX12_feed_24 : decode cX12_feed 24 = .ok (.aload_n 0, 1) := by decide +kernel
theorem dX12_feed_25 : decode cX12_feed 25 = .ok (.iload_n 2, 1) := by decide +kernel
theorem dX12_feed_26 : decode cX12_feed 26 = .ok (.invokevirtual 226, 3) := by decide +kernel
theorem dX12_feed_29 : decode cX12_feed 29 = .ok (.aload_n 0, 1) := by decide +kernel
theorem dX12_feed_30 : decode cX12_feed 30 = .ok (.iload_n 3, 1) := by decide +kernel
theorem dX12_feed_31 : decode cX12_feed 31 = .ok (.invokevirtual 226, 3) := by decide +kernel
theorem dX12_feed_34 : decode cX12_feed 34 = .ok (.aload_n 0, 1) := by decide +kernel
theorem dX12_feed_35 : decode cX12_feed 35 = .ok (.iload 4, 2) := by decide +kernel
theorem dX12_feed_37 : decode cX12_feed 37 = .ok (.invokevirtual 226, 3) := by decide +kernel
theorem dX12_feed_40 : decode cX12_feed 40 = .ok (.aload_n 0, 1) := by decide +kernel
theorem dX12_feed_41 : decode cX12_feed 41 = .ok (.iload 5, 2) := by decide +kernel
theorem dX12_feed_43 : decode cX12_feed 43 = .ok (.invokevirtual 226, 3) := by decide +kernel
theorem dX12_feed_46 : decode cX12_feed 46 = .ok (.aload_n 0, 1) := by decide +kernel
theorem dX12_feed_47 : decode cX12_feed 47 = .ok (.getfield 13, 3) := by decide +kernel
theorem dX12_feed_50 : decode cX12_feed 50 = .ok (.ireturn, 1) := by decide +kernel
theorem dX12_end_0 : decode cX12_end 0 = .ok (.iload_n 1, 1) := by decide +kernel
theorem dX12_end_1 : decode cX12_end 1 = .ok (.ifCond .lt 11, 3) := by decide +kernel
theorem dX12_end_4 : decode cX12_end 4 = .ok (.iload_n 1, 1) := by decide +kernel
theorem dX12_end_5 : decode cX12_end 5 = .ok (.aload_n 0, 1) := by decide +kernel
theorem dX12_end_6 : decode cX12_end 6 = .ok (.getfield 13, 3) := by decide +kernel
theorem dX12_end_9 : decode cX12_end 9 = .ok (.if_icmp .le 17, 3) := by decide +kernel
theorem dX12_end_12 : decode cX12_end 12 = .ok (.aload_n 0, 1) := by decide +kernel
theorem dX12_end_13 : decode cX12_end 13 = .ok (.iconst 0, 1) := by decide +kernel
theorem dX12_end_14 : decode cX12_end 14 = .ok (.invokevirtual 222, 3) := by decide +kernel
theorem dX12_end_17 : decode cX12_end 17 = .ok (.ifCond .lt 7, 3) := by decide +kernel
theorem dX12_end_20 : decode cX12_end 20 = .ok (.iconst 1, 1) := by decide +kernel
theorem dX12_end_21 : decode cX12_end 21 = .ok (.goto 4, 3) := by decide +kernel
theorem dX12_end_24 : decode cX12_end 24 = .ok (.iconst 0, 1) := by decide +kernel
theorem dX12_end_25 : decode cX12_end 25 = .ok (.ireturn, 1) := by decide +kernel
theorem dX12_end_26 : decode cX12_end 26 = .ok (.aload_n 0, 1) := by decide +kernel
theorem dX12_end_27 : decode cX12_end 27 = .ok (.iload_n 1, 1) := by decide +kernel
theorem dX12_end_28 : decode cX12_end 28 = .ok (.putfield 13, 3) := by decide +kernel
theorem dX12_end_31 : decode cX12_end 31 = .ok (.iconst 1, 1) := by decide +kernel
theorem dX12_end_32 : decode cX12_end 32 = .ok (.ireturn, 1) := by decide +kernel
theorem dX12_blame_0 : decode cX12_blame 0 = .ok (.aload_n 0, 1) := by decide +kernel
theorem dX12_blame_1 : decode cX12_blame 1 = .ok (.getfield 36, 3) := by decide +kernel
theorem dX12_blame_4 : decode cX12_blame 4 = .ok (.ifCond .le 4, 3) := by decide +kernel
theorem dX12_blame_7 : decode cX12_blame 7 = .ok (.return_, 1) := by decide +kernel
theorem dX12_blame_8 : decode cX12_blame 8 = .ok (.aload_n 0, 1) := by decide +kernel
theorem dX12_blame_9 : decode cX12_blame 9 = .ok (.iload_n 1, 1) := by decide +kernel
theorem dX12_blame_10 : decode cX12_blame 10 = .ok (.putfield 36, 3) := by decide +kernel
theorem dX12_blame_13 : decode cX12_blame 13 = .ok (.aload_n 0, 1) := by decide +kernel
theorem dX12_blame_14 : decode cX12_blame 14 = .ok (.iload_n 2, 1) := by decide +kernel
theorem dX12_blame_15 : decode cX12_blame 15 = .ok (.putfield 39, 3) := by decide +kernel
theorem dX12_blame_18 : decode cX12_blame 18 = .ok (.return_, 1) := by decide +kernel
theorem dX12_isLetter_0 : decode cX12_isLetter 0 = .ok (.iload_n 0, 1) := by decide +kernel
theorem dX12_isLetter_1 : decode cX12_isLetter 1 = .ok (.bipush 97, 2) := by decide +kernel
theorem dX12_isLetter_3 : decode cX12_isLetter 3 = .ok (.if_icmp .lt 13, 3) := by decide +kernel
theorem dX12_isLetter_6 : decode cX12_isLetter 6 = .ok (.iload_n 0, 1) := by decide +kernel
theorem dX12_isLetter_7 : decode cX12_isLetter 7 = .ok (.bipush 122, 2) := by decide +kernel
theorem dX12_isLetter_9 : decode cX12_isLetter 9 = .ok (.if_icmp .gt 7, 3) := by decide +kernel
theorem dX12_isLetter_12 : decode cX12_isLetter 12 = .ok (.iconst 1, 1) := by decide +kernel
theorem dX12_isLetter_13 : decode cX12_isLetter 13 = .ok (.goto 4, 3) := by decide +kernel
theorem dX12_isLetter_16 : decode cX12_isLetter 16 = .ok (.iconst 0, 1) := by decide +kernel
theorem dX12_isLetter_17 : decode cX12_isLetter 17 = .ok (.ireturn, 1) := by decide +kernel
theorem dX12_isDigit_0 : decode cX12_isDigit 0 = .ok (.iload_n 0, 1) := by decide +kernel
theorem dX12_isDigit_1 : decode cX12_isDigit 1 = .ok (.bipush 48, 2) := by decide +kernel
theorem dX12_isDigit_3 : decode cX12_isDigit 3 = .ok (.if_icmp .lt 13, 3) := by decide +kernel
theorem dX12_isDigit_6 : decode cX12_isDigit 6 = .ok (.iload_n 0, 1) := by decide +kernel
theorem dX12_isDigit_7 : decode cX12_isDigit 7 = .ok (.bipush 57, 2) := by decide +kernel
theorem dX12_isDigit_9 : decode cX12_isDigit 9 = .ok (.if_icmp .gt 7, 3) := by decide +kernel
theorem dX12_isDigit_12 : decode cX12_isDigit 12 = .ok (.iconst 1, 1) := by decide +kernel
theorem dX12_isDigit_13 : decode cX12_isDigit 13 = .ok (.goto 4, 3) := by decide +kernel
theorem dX12_isDigit_16 : decode cX12_isDigit 16 = .ok (.iconst 0, 1) := by decide +kernel
theorem dX12_isDigit_17 : decode cX12_isDigit 17 = .ok (.ireturn, 1) := by decide +kernel
theorem dX12_lex_0 : decode cX12_lex 0 = .ok (.aload_n 0, 1) := by decide +kernel
theorem dX12_lex_1 : decode cX12_lex 1 = .ok (.getfield 48, 3) := by decide +kernel
theorem dX12_lex_4 : decode cX12_lex 4 = .ok (.iconst (-1), 1) := by decide +kernel
theorem dX12_lex_5 : decode cX12_lex 5 = .ok (.if_icmp .eq 12, 3) := by decide +kernel
theorem dX12_lex_8 : decode cX12_lex 8 = .ok (.aload_n 0, 1) := by decide +kernel
theorem dX12_lex_9 : decode cX12_lex 9 = .ok (.iconst 1, 1) := by decide +kernel
theorem dX12_lex_10 : decode cX12_lex 10 = .ok (.aload_n 0, 1) := by decide +kernel
theorem dX12_lex_11 : decode cX12_lex 11 = .ok (.getfield 48, 3) := by decide +kernel
theorem dX12_lex_14 : decode cX12_lex 14 = .ok (.invokevirtual 230, 3) := by decide +kernel
theorem dX12_lex_17 : decode cX12_lex 17 = .ok (.return_, 1) := by decide +kernel
