theorem dX12_chosen_0 : decode cX12_chosen 0 = .ok (.aload_n 0, 1) := by decide +kernel
theorem dX12_chosen_1 : decode cX12_chosen 1 = .ok (.invokevirtual 467, 3) := by decide +kernel
theorem dX12_chosen_4 : decode cX12_chosen 4 = .ok (.iconst 0, 1) := by decide +kernel
theorem dX12_chosen_5 : decode cX12_chosen 5 = .ok (.istore 4, 2) := by decide +kernel
theorem dX12_chosen_7 : decode cX12_chosen 7 = .ok (.iload 4, 2) := by decide +kernel
theorem dX12_chosen_9 : decode cX12_chosen 9 = .ok (.aload_n 0, 1) := by decide +kernel
theorem dX12_chosen_10 : decode cX12_chosen 10 = .ok (.getfield 54, 3) := by decide +kernel
theorem dX12_chosen_13 : decode cX12_chosen 13 = .ok (.aload_n 0, 1) := by decide +kernel
theorem dX12_chosen_14 : decode cX12_chosen 14 = .ok (.getfield 51, 3) := by decide +kernel
theorem dX12_chosen_17 : decode cX12_chosen 17 = .ok (.iaload, 1) := by decide +kernel
theorem dX12_chosen_18 : decode cX12_chosen 18 = .ok (.if_icmp .ge 82, 3) := by decide +kernel
theorem dX12_chosen_21 : decode cX12_chosen 21 = .ok (.aload_n 0, 1) := by decide +kernel
theorem dX12_chosen_22 : decode cX12_chosen 22 = .ok (.getfield 195, 3) := by decide +kernel
theorem dX12_chosen_25 : decode cX12_chosen 25 = .ok (.iload 4, 2) := by decide +kernel
theorem dX12_chosen_27 : decode cX12_chosen 27 = .ok (.iaload, 1) := by decide +kernel
theorem dX12_chosen_28 : decode cX12_chosen 28 = .ok (.istore 5, 2) := by decide +kernel
theorem dX12_chosen_30 : decode cX12_chosen 30 = .ok (.iload_n 3, 1) := by decide +kernel
theorem dX12_chosen_31 : decode cX12_chosen 31 = .ok (.iload 5, 2) := by decide +kernel
theorem dX12_chosen_33 : decode cX12_chosen 33 = .ok (.invokestatic 351, 3) := by decide +kernel
theorem dX12_chosen_36 : decode cX12_chosen 36 = .ok (.ifCond .ne 6, 3) := by decide +kernel
theorem dX12_chosen_39 : decode cX12_chosen 39 = .ok (.goto 55, 3) := by decide +kernel
theorem dX12_chosen_42 : decode cX12_chosen 42 = .ok (.aload_n 0, 1) := by decide +kernel
theorem dX12_chosen_43 : decode cX12_chosen 43 = .ok (.getfield 192, 3) := by decide +kernel
theorem dX12_chosen_46 : decode cX12_chosen 46 = .ok (.iload 5, 2) := by decide +kernel
theorem dX12_chosen_48 : decode cX12_chosen 48 = .ok (.aload_n 0, 1) := by decide +kernel
theorem dX12_chosen_49 : decode cX12_chosen 49 = .ok (.iload_n 1, 1) := by decide +kernel
theorem dX12_chosen_50 : decode cX12_chosen 50 = .ok (.iload 5, 2) := by decide +kernel
theorem dX12_chosen_52 : decode cX12_chosen 52 = .ok (.iload_n 2, 1) := by decide +kernel
theorem dX12_chosen_53 : decode cX12_chosen 53 = .ok (.invokevirtual 470, 3) := by decide +kernel
theorem dX12_chosen_56 : decode cX12_chosen 56 = .ok (.iastore, 1) := by decide +kernel
theorem dX12_chosen_57 : decode cX12_chosen 57 = .ok (.aload_n 0, 1) := by decide +kernel
theorem dX12_chosen_58 : decode cX12_chosen 58 = .ok (.getfield 192, 3) := by decide +kernel
theorem dX12_chosen_61 : decode cX12_chosen 61 = .ok (.iload 5, 2) := by decide +kernel
theorem dX12_chosen_63 : decode cX12_chosen 63 = .ok (.iaload, 1) := by decide +kernel
theorem dX12_chosen_64 : decode cX12_chosen 64 = .ok (.iconst (-1), 1) := by decide +kernel
theorem dX12_chosen_65 : decode cX12_chosen 65 = .ok (.if_icmp .eq 29, 3) := by decide +kernel
theorem dX12_chosen_68 : decode cX12_chosen 68 = .ok (.aload_n 0, 1) := by decide +kernel
theorem dX12_chosen_69 : decode cX12_chosen 69 = .ok (.iload_n 1, 1) := by decide +kernel
theorem dX12_chosen_70 : decode cX12_chosen 70 = .ok (.iload 5, 2) := by decide +kernel
theorem dX12_chosen_72 : decode cX12_chosen 72 = .ok (.invokevirtual 473, 3) := by decide +kernel
theorem dX12_chosen_75 : decode cX12_chosen 75 = .ok (.ifCond .eq 19, 3) := by decide +kernel
theorem dX12_chosen_78 : decode cX12_chosen 78 = .ok (.aload_n 0, 1) := by decide +kernel
theorem dX12_chosen_79 : decode cX12_chosen 79 = .ok (.getfield 189, 3) := by decide +kernel
theorem dX12_chosen_82 : decode cX12_chosen 82 = .ok (.aload_n 0, 1) := by decide +kernel
theorem dX12_chosen_83 : decode cX12_chosen 83 = .ok (.getfield 192, 3) := by decide +kernel
theorem dX12_chosen_86 : decode cX12_chosen 86 = .ok (.iload 5, 2) := by decide +kernel
theorem dX12_chosen_88 : decode cX12_chosen 88 = .ok (.iaload, 1) := by decide +kernel
theorem dX12_chosen_89 : decode cX12_chosen 89 = .ok (.dup2, 1) := by decide +kernel
theorem dX12_chosen_90 : decode cX12_chosen 90 = .ok (.iaload, 1) := by decide +kernel
theorem dX12_chosen_91 : decode cX12_chosen 91 = .ok (.iconst 1, 1) := by decide +kernel
theorem dX12_chosen_92 : decode cX12_chosen 92 = .ok (.iadd, 1) := by decide +kernel
theorem dX12_chosen_93 : decode cX12_chosen 93 = .ok (.iastore, 1) := by decide +kernel
theorem dX12_chosen_94 : decode cX12_chosen 94 = .ok (.iinc 4 1, 3) := by decide +kernel
theorem dX12_chosen_97 : decode cX12_chosen 97 = .ok (.goto (-90), 3) := by decide +kernel
theorem dX12_chosen_100 : decode cX12_chosen 100 = .ok (.iconst (-1), 1) := by decide +kernel
theorem dX12_chosen_101 : decode cX12_chosen 101 = .ok (.istore 4, 2) := by decide +kernel
theorem dX12_chosen_103 : decode cX12_chosen 103 = .ok (.iconst 0, 1) := by decide +kernel
theorem dX12_chosen_104 : decode cX12_chosen 104 = .ok (.istore 5, 2) := by decide +kernel
theorem dX12_chosen_106 : decode cX12_chosen 106 = .ok (.iload 5, 2) := by decide +kernel
theorem dX12_chosen_108 : decode cX12_chosen 108 = .ok (.aload_n 0, 1) := by decide +kernel
theorem dX12_chosen_109 : decode cX12_chosen 109 = .ok (.getfield 63, 3) := by decide +kernel
theorem dX12_chosen_112 : decode cX12_chosen 112 = .ok (.aload_n 0, 1) := by decide +kernel
theorem dX12_chosen_113 : decode cX12_chosen 113 = .ok (.getfield 51, 3) := by decide +kernel
theorem dX12_chosen_116 : decode cX12_chosen 116 = .ok (.iaload, 1) := by decide +kernel
theorem dX12_chosen_117 : decode cX12_chosen 117 = .ok (.if_icmp .ge 46, 3) := by decide +kernel
theorem dX12_chosen_120 : decode cX12_chosen 120 = .ok (.aload_n 0, 1) := by decide +kernel
theorem dX12_chosen_121 : decode cX12_chosen 121 = .ok (.getfield 189, 3) := by decide +kernel
theorem dX12_chosen_124 : decode cX12_chosen 124 = .ok (.iload 5, 2) := by decide +kernel
theorem dX12_chosen_126 : decode cX12_chosen 126 = .ok (.iaload, 1) := by decide +kernel
theorem dX12_chosen_127 : decode cX12_chosen 127 = .ok (.ifCond .le 30, 3) := by decide +kernel
theorem dX12_chosen_130 : decode cX12_chosen 130 = .ok (.iload 4, 2) := by decide +kernel
theorem dX12_chosen_132 : decode cX12_chosen 132 = .ok (.iconst (-1), 1) := by decide +kernel
theorem dX12_chosen_133 : decode cX12_chosen 133 = .ok (.if_icmp .eq 20, 3) := by decide +kernel
theorem dX12_chosen_136 : decode cX12_chosen 136 = .ok (.aload_n 0, 1) := by decide +kernel
theorem dX12_chosen_137 : decode cX12_chosen 137 = .ok (.getfield 189, 3) := by decide +kernel
theorem dX12_chosen_140 : decode cX12_chosen 140 = .ok (.iload 5, 2) := by decide +kernel
theorem dX12_chosen_142 : decode cX12_chosen 142 = .ok (.iaload, 1) := by decide +kernel
theorem dX12_chosen_143 : decode cX12_chosen 143 = .ok (.aload_n 0, 1) := by decide +kernel
theorem dX12_chosen_144 : decode cX12_chosen 144 = .ok (.getfield 189, 3) := by decide +kernel
theorem dX12_chosen_147 : decode cX12_chosen 147 = .ok (.iload 4, 2) := by decide +kernel
theorem dX12_chosen_149 : decode cX12_chosen 149 = .ok (.iaload, 1) := by decide +kernel
theorem dX12_chosen_150 : decode cX12_chosen 150 = .ok (.if_icmp .le 7, 3) := by decide +kernel
theorem dX12_chosen_153 : decode cX12_chosen 153 = .ok (.iload 5, 2) := by decide +kernel
theorem dX12_chosen_155 : decode cX12_chosen 155 = .ok (.istore 4, 2) := by decide +kernel
theorem dX12_chosen_157 : decode cX12_chosen 157 = .ok (.iinc 5 1, 3) := by decide +kernel
theorem dX12_chosen_160 : decode cX12_chosen 160 = .ok (.goto (-54), 3) := by decide +kernel
theorem dX12_chosen_163 : decode cX12_chosen 163 = .ok (.iload 4, 2) := by decide +kernel
theorem dX12_chosen_165 : decode cX12_chosen 165 = .ok (.ireturn, 1) := by decide +kernel
theorem dX12_everybody_0 : decode cX12_everybody 0 = .ok (.iconst 1, 1) := by decide +kernel
theorem dX12_everybody_1 : decode cX12_everybody 1 = .ok (.aload_n 0, 1) := by decide +kernel
theorem dX12_everybody_2 : decode cX12_everybody 2 = .ok (.getfield 54, 3) := by decide +kernel
theorem dX12_everybody_5 : decode cX12_everybody 5 = .ok (.aload_n 0, 1) := by decide +kernel
theorem dX12_everybody_6 : decode cX12_everybody 6 = .ok (.getfield 51, 3) := by decide +kernel
theorem dX12_everybody_9 : decode cX12_everybody 9 = .ok (.iaload, 1) := by decide +kernel
theorem dX12_everybody_10 : decode cX12_everybody 10 = .ok (.ishl, 1) := by decide +kernel
theorem dX12_everybody_11 : decode cX12_everybody 11 = .ok (.iconst 1, 1) := by decide +kernel
theorem dX12_everybody_12 : decode cX12_everybody 12 = .ok (.isub, 1) := by decide +kernel
theorem dX12_everybody_13 : decode cX12_everybody 13 = .ok (.ireturn, 1) := by decide +kernel
theorem dX12_laysNow_0 : decode cX12_laysNow 0 = .ok (.iconst 0, 1) := by decide +kernel
theorem dX12_laysNow_1 : decode cX12_laysNow 1 = .ok (.istore_n 2, 1) := by decide +kernel
theorem dX12_laysNow_2 : decode cX12_laysNow 2 = .ok (.iload_n 2, 1) := by decide +kernel
theorem dX12_laysNow_3 : decode cX12_laysNow 3 = .ok (.aload_n 0, 1) := by decide +kernel
theorem dX12_laysNow_4 : decode cX12_laysNow 4 = .ok (.getfield 54, 3) := by decide +kernel
theorem dX12_laysNow_7 : decode cX12_laysNow 7 = .ok (.aload_n 0, 1) := by decide +kernel
theorem dX12_laysNow_8 : decode cX12_laysNow 8 = .ok (.getfield 51, 3) := by decide +kernel
theorem dX12_laysNow_11 : decode cX12_laysNow 11 = .ok (.iaload, 1) := by decide +kernel
theorem dX12_laysNow_12 : decode cX12_laysNow 12 = .ok (.if_icmp .ge 26, 3) := by decide +kernel
theorem dX12_laysNow_15 : decode cX12_laysNow 15 = .ok (.aload_n 0, 1) := by decide +kernel
theorem dX12_laysNow_16 : decode cX12_laysNow 16 = .ok (.getfield 195, 3) := by decide +kernel
theorem dX12_laysNow_19 : decode cX12_laysNow 19 = .ok (.iload_n 2, 1) := by decide +kernel
theorem dX12_laysNow_20 : decode cX12_laysNow 20 = .ok (.aload_n 0, 1) := by decide +kernel
theorem dX12_laysNow_21 : decode cX12_laysNow 21 = .ok (.getfield 156, 3) := by decide +kernel
theorem dX12_laysNow_24 : decode cX12_laysNow 24 = .ok (.bipush 6, 2) := by decide +kernel
theorem dX12_laysNow_26 : decode cX12_laysNow 26 = .ok (.iload_n 1, 1) := by decide +kernel
theorem dX12_laysNow_27 : decode cX12_laysNow 27 = .ok (.imul, 1) := by decide +kernel
theorem dX12_laysNow_28 : decode cX12_laysNow 28 = .ok (.iload_n 2, 1) := by decide +kernel
theorem dX12_laysNow_29 : decode cX12_laysNow 29 = .ok (.iadd, 1) := by decide +kernel
theorem dX12_laysNow_30 : decode cX12_laysNow 30 = .ok (.iaload, 1) := by decide +kernel
theorem dX12_laysNow_31 : decode cX12_laysNow 31 = .ok (.iastore, 1) := by decide +kernel
theorem dX12_laysNow_32 : decode cX12_laysNow 32 = .ok (.iinc 2 1, 3) := by decide +kernel
theorem dX12_laysNow_35 : decode cX12_laysNow 35 = .ok (.goto (-33), 3) := by decide +kernel
theorem dX12_laysNow_38 : decode cX12_laysNow 38 = .ok (.return_, 1) := by decide +kernel
theorem dX12_choiceOf_0 : decode cX12_choiceOf 0 = .ok (.aload_n 0, 1) := by decide +kernel
theorem dX12_choiceOf_1 : decode cX12_choiceOf 1 = .ok (.iload_n 1, 1) := by decide +kernel
theorem dX12_choiceOf_2 : decode cX12_choiceOf 2 = .ok (.invokevirtual 476, 3) := by decide +kernel
theorem dX12_choiceOf_5 : decode cX12_choiceOf 5 = .ok (.aload_n 0, 1) := by decide +kernel
theorem dX12_choiceOf_6 : decode cX12_choiceOf 6 = .ok (.iload_n 1, 1) := by decide +kernel
theorem dX12_choiceOf_7 : decode cX12_choiceOf 7 = .ok (.iload_n 2, 1) := by decide +kernel
theorem dX12_choiceOf_8 : decode cX12_choiceOf 8 = .ok (.iload_n 3, 1) := by decide +kernel
theorem dX12_choiceOf_9 : decode cX12_choiceOf 9 = .ok (.invokevirtual 479, 3) := by decide +kernel
theorem dX12_choiceOf_12 : decode cX12_choiceOf 12 = .ok (.ireturn, 1) := by decide +kernel
theorem dX12_writesDown_0 : decode cX12_writesDown 0 = .ok (.aload_n 0, 1) := by decide +kernel
theorem dX12_writesDown_1 : decode cX12_writesDown 1 = .ok (.getfield 165, 3) := by decide +kernel
theorem dX12_writesDown_4 : decode cX12_writesDown 4 = .ok (.iload_n 1, 1) := by decide +kernel
theorem dX12_writesDown_5 : decode cX12_writesDown 5 = .ok (.iaload, 1) := by decide +kernel
theorem dX12_writesDown_6 : decode cX12_writesDown 6 = .ok (.bipush 40, 2) := by decide +kernel
theorem dX12_writesDown_8 : decode cX12_writesDown 8 = .ok (.if_icmp .ne 55, 3) := by decide +kernel
theorem dX12_writesDown_11 : decode cX12_writesDown 11 = .ok (.bipush 120, 2) := by decide +kernel
theorem dX12_writesDown_13 : decode cX12_writesDown 13 = .ok (.iload_n 1, 1) := by decide +kernel
theorem dX12_writesDown_14 : decode cX12_writesDown 14 = .ok (.imul, 1) := by decide +kernel
theorem dX12_writesDown_15 : decode cX12_writesDown 15 = .ok (.istore 4, 2) := by decide +kernel
theorem dX12_writesDown_17 : decode cX12_writesDown 17 = .ok (.iload 4, 2) := by decide +kernel
theorem dX12_writesDown_19 : decode cX12_writesDown 19 = .ok (.bipush 120, 2) := by decide +kernel
theorem dX12_writesDown_21 : decode cX12_writesDown 21 = .ok (.iload_n 1, 1) := by decide +kernel
theorem dX12_writesDown_22 : decode cX12_writesDown 22 = .ok (.imul, 1) := by decide +kernel
theorem dX12_writesDown_23 : decode cX12_writesDown 23 = .ok (.bipush 120, 2) := by decide +kernel
theorem dX12_writesDown_25 : decode cX12_writesDown 25 = .ok (.iadd, 1) := by decide +kernel
theorem dX12_writesDown_26 : decode cX12_writesDown 26 = .ok (.iconst 3, 1) := by decide +kernel
theorem dX12_writesDown_27 : decode cX12_writesDown 27 = .ok (.isub, 1) := by decide +kernel
theorem dX12_writesDown_28 : decode cX12_writesDown 28 = .ok (.if_icmp .ge 25, 3) := by decide +kernel
theorem dX12_writesDown_31 : decode cX12_writesDown 31 = .ok (.aload_n 0, 1) := by decide +kernel
theorem dX12_writesDown_32 : decode cX12_writesDown 32 = .ok (.getfield 168, 3) := by decide +kernel
theorem dX12_writesDown_35 : decode cX12_writesDown 35 = .ok (.iload 4, 2) := by decide +kernel
theorem dX12_writesDown_37 : decode cX12_writesDown 37 = .ok (.aload_n 0, 1) := by decide +kernel
theorem dX12_writesDown_38 : decode cX12_writesDown 38 = .ok (.getfield 168, 3) := by decide +kernel
theorem dX12_writesDown_41 : decode cX12_writesDown 41 = .ok (.iload 4, 2) := by decide +kernel
theorem dX12_writesDown_43 : decode cX12_writesDown 43 = .ok (.iconst 3, 1) := by decide +kernel
theorem dX12_writesDown_44 : decode cX12_writesDown 44 = .ok (.iadd, 1) := by decide +kernel
theorem dX12_writesDown_45 : decode cX12_writesDown 45 = .ok (.iaload, 1) := by decide +kernel
theorem dX12_writesDown_46 : decode cX12_writesDown 46 = .ok (.iastore, 1) := by decide +kernel
theorem dX12_writesDown_47 : decode cX12_writesDown 47 = .ok (.iinc 4 1, 3) := by decide +kernel
theorem dX12_writesDown_50 : decode cX12_writesDown 50 = .ok (.goto (-33), 3) := by decide +kernel
theorem dX12_writesDown_53 : decode cX12_writesDown 53 = .ok (.aload_n 0, 1) := by decide +kernel
theorem dX12_writesDown_54 : decode cX12_writesDown 54 = .ok (.getfield 165, 3) := by decide +kernel
theorem dX12_writesDown_57 : decode cX12_writesDown 57 = .ok (.iload_n 1, 1) := by decide +kernel
theorem dX12_writesDown_58 : decode cX12_writesDown 58 = .ok (.dup2, 1) := by decide +kernel
theorem dX12_writesDown_59 : decode cX12_writesDown 59 = .ok (.iaload, 1) := by decide +kernel
theorem dX12_writesDown_60 : decode cX12_writesDown 60 = .ok (.iconst 1, 1) := by decide +kernel
theorem dX12_writesDown_61 : decode cX12_writesDown 61 = .ok (.isub, 1) := by decide +kernel
theorem dX12_writesDown_62 : decode cX12_writesDown 62 = .ok (.iastore, 1) := by decide +kernel
theorem dX12_writesDown_63 : decode cX12_writesDown 63 = .ok (.iconst 3, 1) := by decide +kernel
theorem dX12_writesDown_64 : decode cX12_writesDown 64 = .ok (.bipush 40, 2) := by decide +kernel
theorem dX12_writesDown_66 : decode cX12_writesDown 66 = .ok (.iload_n 1, 1) := by decide +kernel
theorem dX12_writesDown_67 : decode cX12_writesDown 67 = .ok (.imul, 1) := by decide +kernel
theorem dX12_writesDown_68 : decode cX12_writesDown 68 = .ok (.aload_n 0, 1) := by decide +kernel
theorem dX12_writesDown_69 : decode cX12_writesDown 69 = .ok (.getfield 165, 3) := by decide +kernel
theorem dX12_writesDown_72 : decode cX12_writesDown 72 = .ok (.iload_n 1, 1) := by decide +kernel
theorem dX12_writesDown_73 : decode cX12_writesDown 73 = .ok (.iaload, 1) := by decide +kernel
theorem dX12_writesDown_74 : decode cX12_writesDown 74 = .ok (.iadd, 1) := by decide +kernel
theorem dX12_writesDown_75 : decode cX12_writesDown 75 = .ok (.imul, 1) := by decide +kernel
theorem dX12_writesDown_76 : decode cX12_writesDown 76 = .ok (.istore 4, 2) := by decide +kernel
theorem dX12_writesDown_78 : decode cX12_writesDown 78 = .ok (.aload_n 0, 1) := by decide +kernel
theorem dX12_writesDown_79 : decode cX12_writesDown 79 = .ok (.getfield 168, 3) := by decide +kernel
theorem dX12_writesDown_82 : decode cX12_writesDown 82 = .ok (.iload 4, 2) := by decide +kernel
theorem dX12_writesDown_84 : decode cX12_writesDown 84 = .ok (.aload_n 0, 1) := by decide +kernel
theorem dX12_writesDown_85 : decode cX12_writesDown 85 = .ok (.getfield 150, 3) := by decide +kernel
theorem dX12_writesDown_88 : decode cX12_writesDown 88 = .ok (.iload_n 1, 1) := by decide +kernel
theorem dX12_writesDown_89 : decode cX12_writesDown 89 = .ok (.iaload, 1) := by decide +kernel
theorem dX12_writesDown_90 : decode cX12_writesDown 90 = .ok (.iastore, 1) := by decide +kernel
theorem dX12_writesDown_91 : decode cX12_writesDown 91 = .ok (.aload_n 0, 1) := by decide +kernel
theorem dX12_writesDown_92 : decode cX12_writesDown 92 = .ok (.getfield 168, 3) := by decide +kernel
theorem dX12_writesDown_95 : decode cX12_writesDown 95 = .ok (.iload 4, 2) := by decide +kernel
theorem dX12_writesDown_97 : decode cX12_writesDown 97 = .ok (.iconst 1, 1) := by decide +kernel
theorem dX12_writesDown_98 : decode cX12_writesDown 98 = .ok (.iadd, 1) := by decide +kernel
theorem dX12_writesDown_99 : decode cX12_writesDown 99 = .ok (.iload_n 2, 1) := by decide +kernel
theorem dX12_writesDown_100 : decode cX12_writesDown 100 = .ok (.iastore, 1) := by decide +kernel
theorem dX12_writesDown_101 : decode cX12_writesDown 101 = .ok (.aload_n 0, 1) := by decide +kernel
theorem dX12_writesDown_102 : decode cX12_writesDown 102 = .ok (.getfield 168, 3) := by decide +kernel
theorem dX12_writesDown_105 : decode cX12_writesDown 105 = .ok (.iload 4, 2) := by decide +kernel
theorem dX12_writesDown_107 : decode cX12_writesDown 107 = .ok (.iconst 2, 1) := by decide +kernel
theorem dX12_writesDown_108 : decode cX12_writesDown 108 = .ok (.iadd, 1) := by decide +kernel
theorem dX12_writesDown_109 : decode cX12_writesDown 109 = .ok (.iload_n 3, 1) := by decide +kernel
theorem dX12_writesDown_110 : decode cX12_writesDown 110 = .ok (.iastore, 1) := by decide +kernel
theorem dX12_writesDown_111 : decode cX12_writesDown 111 = .ok (.aload_n 0, 1) := by decide +kernel
theorem dX12_writesDown_112 : decode cX12_writesDown 112 = .ok (.getfield 165, 3) := by decide +kernel
theorem dX12_writesDown_115 : decode cX12_writesDown 115 = .ok (.iload_n 1, 1) := by decide +kernel
theorem dX12_writesDown_116 : decode cX12_writesDown 116 = .ok (.dup2, 1) := by decide +kernel
theorem dX12_writesDown_117 : decode cX12_writesDown 117 = .ok (.iaload, 1) := by decide +kernel
theorem dX12_writesDown_118 : decode cX12_writesDown 118 = .ok (.iconst 1, 1) := by decide +kernel
theorem dX12_writesDown_119 : decode cX12_writesDown 119 = .ok (.iadd, 1) := by decide +kernel
theorem dX12_writesDown_120 : decode cX12_writesDown 120 = .ok (.iastore, 1) := by decide +kernel
theorem dX12_writesDown_121 : decode cX12_writesDown 121 = .ok (.return_, 1) := by decide +kernel
theorem dX12_gift_0 : decode cX12_gift 0 = .ok (.aload_n 0, 1) := by decide +kernel
theorem dX12_gift_1 : decode cX12_gift 1 = .ok (.iconst 2, 1) := by decide +kernel
theorem dX12_gift_2 : decode cX12_gift 2 = .ok (.invokevirtual 450, 3) := by decide +kernel
theorem dX12_gift_5 : decode cX12_gift 5 = .ok (.ifCond .ne 6, 3) := by decide +kernel
theorem dX12_gift_8 : decode cX12_gift 8 = .ok (.bipush 9, 2) := by decide +kernel
theorem dX12_gift_10 : decode cX12_gift 10 = .ok (.ireturn, 1) := by decide +kernel
theorem dX12_gift_11 : decode cX12_gift 11 = .ok (.aload_n 0, 1) := by decide +kernel
theorem dX12_gift_12 : decode cX12_gift 12 = .ok (.getfield 186, 3) := by decide +kernel
theorem dX12_gift_15 : decode cX12_gift 15 = .ok (.iconst 1, 1) := by decide +kernel
theorem dX12_gift_16 : decode cX12_gift 16 = .ok (.aload_n 0, 1) := by decide +kernel
theorem dX12_gift_17 : decode cX12_gift 17 = .ok (.getfield 150, 3) := by decide +kernel
theorem dX12_gift_20 : decode cX12_gift 20 = .ok (.iload_n 1, 1) := by decide +kernel
theorem dX12_gift_21 : decode cX12_gift 21 = .ok (.iaload, 1) := by decide +kernel
theorem dX12_gift_22 : decode cX12_gift 22 = .ok (.iastore, 1) := by decide +kernel
theorem dX12_gift_23 : decode cX12_gift 23 = .ok (.aload_n 0, 1) := by decide +kernel
theorem dX12_gift_24 : decode cX12_gift 24 = .ok (.getfield 186, 3) := by decide +kernel
theorem dX12_gift_27 : decode cX12_gift 27 = .ok (.bipush 8, 2) := by decide +kernel
theorem dX12_gift_29 : decode cX12_gift 29 = .ok (.aload_n 0, 1) := by decide +kernel
theorem dX12_gift_30 : decode cX12_gift 30 = .ok (.getfield 153, 3) := by decide +kernel
theorem dX12_gift_33 : decode cX12_gift 33 = .ok (.iload_n 1, 1) := by decide +kernel
theorem dX12_gift_34 : decode cX12_gift 34 = .ok (.iaload, 1) := by decide +kernel
theorem dX12_gift_35 : decode cX12_gift 35 = .ok (.iastore, 1) := by decide +kernel
theorem dX12_gift_36 : decode cX12_gift 36 = .ok (.aload_n 0, 1) := by decide +kernel
theorem dX12_gift_37 : decode cX12_gift 37 = .ok (.getfield 186, 3) := by decide +kernel
theorem dX12_gift_40 : decode cX12_gift 40 = .ok (.bipush 9, 2) := by decide +kernel
theorem dX12_gift_42 : decode cX12_gift 42 = .ok (.aload_n 0, 1) := by decide +kernel
theorem dX12_gift_43 : decode cX12_gift 43 = .ok (.iload_n 1, 1) := by decide +kernel
theorem dX12_gift_44 : decode cX12_gift 44 = .ok (.iconst (-1), 1) := by decide +kernel
theorem dX12_gift_45 : decode cX12_gift 45 = .ok (.invokevirtual 456, 3) := by decide +kernel
theorem dX12_gift_48 : decode cX12_gift 48 = .ok (.iastore, 1) := by decide +kernel
theorem dX12_gift_49 : decode cX12_gift 49 = .ok (.aload_n 0, 1) := by decide +kernel
theorem dX12_gift_50 : decode cX12_gift 50 = .ok (.iconst 2, 1) := by decide +kernel
theorem dX12_gift_51 : decode cX12_gift 51 = .ok (.invokevirtual 459, 3) := by decide +kernel
theorem dX12_gift_54 : decode cX12_gift 54 = .ok (.lstore_n 2, 1) := by decide +kernel
theorem dX12_gift_55 : decode cX12_gift 55 = .ok (.lload_n 2, 1) := by decide +kernel
theorem dX12_gift_56 : decode cX12_gift 56 = .ok (.lconst 0, 1) := by decide +kernel
theorem dX12_gift_57 : decode cX12_gift 57 = .ok (.lcmp, 1) := by decide +kernel
theorem dX12_gift_58 : decode cX12_gift 58 = .ok (.ifCond .ge 7, 3) := by decide +kernel
theorem dX12_gift_61 : decode cX12_gift 61 = .ok (.iconst 0, 1) := by decide +kernel
theorem dX12_gift_62 : decode cX12_gift 62 = .ok (.goto 18, 3) := by decide +kernel
theorem dX12_gift_65 : decode cX12_gift 65 = .ok (.lload_n 2, 1) := by decide +kernel
theorem dX12_gift_66 : decode cX12_gift 66 = .ok (.ldc2_w 482, 3) := by decide +kernel
theorem dX12_gift_69 : decode cX12_gift 69 = .ok (.lcmp, 1) := by decide +kernel
theorem dX12_gift_70 : decode cX12_gift 70 = .ok (.ifCond .le 8, 3) := by decide +kernel
theorem dX12_gift_73 : decode cX12_gift 73 = .ok (.bipush 99, 2) := by decide +kernel
theorem dX12_gift_75 : decode cX12_gift 75 = .ok (.goto 5, 3) := by decide +kernel
theorem dX12_gift_78 : decode cX12_gift 78 = .ok (.lload_n 2, 1) := by decide +kernel
theorem dX12_gift_79 : decode cX12_gift 79 = .ok (.l2i, 1) := by decide +kernel
theorem dX12_gift_80 : decode cX12_gift 80 = .ok (.ireturn, 1) := by decide +kernel
theorem dX12_moods_0 : decode cX12_moods 0 = .ok (.iconst 0, 1) := by decide +kernel
theorem dX12_moods_1 : decode cX12_moods 1 = .ok (.istore_n 3, 1) := by decide +kernel
theorem dX12_moods_2 : decode cX12_moods 2 = .ok (.iload_n 3, 1) := by decide +kernel
theorem dX12_moods_3 : decode cX12_moods 3 = .ok (.aload_n 0, 1) := by decide +kernel
theorem dX12_moods_4 : decode cX12_moods 4 = .ok (.getfield 54, 3) := by decide +kernel
theorem dX12_moods_7 : decode cX12_moods 7 = .ok (.aload_n 0, 1) := by decide +kernel
theorem dX12_moods_8 : decode cX12_moods 8 = .ok (.getfield 51, 3) := by decide +kernel
theorem dX12_moods_11 : decode cX12_moods 11 = .ok (.iaload, 1) := by decide +kernel
theorem dX12_moods_12 : decode cX12_moods 12 = .ok (.if_icmp .ge 93, 3) := by decide +kernel
theorem dX12_moods_15 : decode cX12_moods 15 = .ok (.bipush 6, 2) := by decide +kernel
theorem dX12_moods_17 : decode cX12_moods 17 = .ok (.iload_n 1, 1) := by decide +kernel
theorem dX12_moods_18 : decode cX12_moods 18 = .ok (.imul, 1) := by decide +kernel
theorem dX12_moods_19 : decode cX12_moods 19 = .ok (.iload_n 3, 1) := by decide +kernel
theorem dX12_moods_20 : decode cX12_moods 20 = .ok (.iadd, 1) := by decide +kernel
theorem dX12_moods_21 : decode cX12_moods 21 = .ok (.istore 4, 2) := by decide +kernel
theorem dX12_moods_23 : decode cX12_moods 23 = .ok (.aload_n 0, 1) := by decide +kernel
theorem dX12_moods_24 : decode cX12_moods 24 = .ok (.getfield 192, 3) := by decide +kernel
theorem dX12_moods_27 : decode cX12_moods 27 = .ok (.iload_n 3, 1) := by decide +kernel
theorem dX12_moods_28 : decode cX12_moods 28 = .ok (.iaload, 1) := by decide +kernel
theorem dX12_moods_29 : decode cX12_moods 29 = .ok (.iload_n 2, 1) := by decide +kernel
theorem dX12_moods_30 : decode cX12_moods 30 = .ok (.if_icmp .ne 39, 3) := by decide +kernel
theorem dX12_moods_33 : decode cX12_moods 33 = .ok (.aload_n 0, 1) := by decide +kernel
theorem dX12_moods_34 : decode cX12_moods 34 = .ok (.getfield 159, 3) := by decide +kernel
theorem dX12_moods_37 : decode cX12_moods 37 = .ok (.iload 4, 2) := by decide +kernel
theorem dX12_moods_39 : decode cX12_moods 39 = .ok (.aload_n 0, 1) := by decide +kernel
theorem dX12_moods_40 : decode cX12_moods 40 = .ok (.getfield 159, 3) := by decide +kernel
theorem dX12_moods_43 : decode cX12_moods 43 = .ok (.iload 4, 2) := by decide +kernel
theorem dX12_moods_45 : decode cX12_moods 45 = .ok (.iaload, 1) := by decide +kernel
theorem dX12_moods_46 : decode cX12_moods 46 = .ok (.bipush 9, 2) := by decide +kernel
theorem dX12_moods_48 : decode cX12_moods 48 = .ok (.if_icmp .ge 15, 3) := by decide +kernel
theorem dX12_moods_51 : decode cX12_moods 51 = .ok (.aload_n 0, 1) := by decide +kernel
theorem dX12_moods_52 : decode cX12_moods 52 = .ok (.getfield 159, 3) := by decide +kernel
theorem dX12_moods_55 : decode cX12_moods 55 = .ok (.iload 4, 2) := by decide +kernel
theorem dX12_moods_57 : decode cX12_moods 57 = .ok (.iaload, 1) := by decide +kernel
theorem dX12_moods_58 : decode cX12_moods 58 = .ok (.iconst 1, 1) := by decide +kernel
theorem dX12_moods_59 : decode cX12_moods 59 = .ok (.iadd, 1) := by decide +kernel
theorem dX12_moods_60 : decode cX12_moods 60 = .ok (.goto 5, 3) := by decide +kernel
theorem dX12_moods_63 : decode cX12_moods 63 = .ok (.bipush 9, 2) := by decide +kernel
theorem dX12_moods_65 : decode cX12_moods 65 = .ok (.iastore, 1) := by decide +kernel
theorem dX12_moods_66 : decode cX12_moods 66 = .ok (.goto 33, 3) := by decide +kernel
theorem dX12_moods_69 : decode cX12_moods 69 = .ok (.aload_n 0, 1) := by decide +kernel
theorem dX12_moods_70 : decode cX12_moods 70 = .ok (.getfield 159, 3) := by decide +kernel
theorem dX12_moods_73 : decode cX12_moods 73 = .ok (.iload 4, 2) := by decide +kernel
theorem dX12_moods_75 : decode cX12_moods 75 = .ok (.aload_n 0, 1) := by decide +kernel
theorem dX12_moods_76 : decode cX12_moods 76 = .ok (.getfield 159, 3) := by decide +kernel
theorem dX12_moods_79 : decode cX12_moods 79 = .ok (.iload 4, 2) := by decide +kernel
theorem dX12_moods_81 : decode cX12_moods 81 = .ok (.iaload, 1) := by decide +kernel
theorem dX12_moods_82 : decode cX12_moods 82 = .ok (.ifCond .le 15, 3) := by decide +kernel
theorem dX12_moods_85 : decode cX12_moods 85 = .ok (.aload_n 0, 1) := by decide +kernel
theorem dX12_moods_86 : decode cX12_moods 86 = .ok (.getfield 159, 3) := by decide +kernel
theorem dX12_moods_89 : decode cX12_moods 89 = .ok (.iload 4, 2) := by decide +kernel
theorem dX12_moods_91 : decode cX12_moods 91 = .ok (.iaload, 1) := by decide +kernel
theorem dX12_moods_92 : decode cX12_moods 92 = .ok (.iconst 1, 1) := by decide +kernel
theorem dX12_moods_93 : decode cX12_moods 93 = .ok (.isub, 1) := by decide +kernel
theorem dX12_moods_94 : decode cX12_moods 94 = .ok (.goto 4, 3) := by decide +kernel
theorem dX12_moods_97 : decode cX12_moods 97 = .ok (.iconst 0, 1) := by decide +kernel
theorem dX12_moods_98 : decode cX12_moods 98 = .ok (.iastore, 1) := by decide +kernel
theorem dX12_moods_99 : decode cX12_moods 99 = .ok (.iinc 3 1, 3) := by decide +kernel
theorem dX12_moods_102 : decode cX12_moods 102 = .ok (.goto (-100), 3) := by decide +kernel
theorem dX12_moods_105 : decode cX12_moods 105 = .ok (.return_, 1) := by decide +kernel
theorem dX12_ticks_0 : decode cX12_ticks 0 = .ok (.aload_n 0, 1) := by decide +kernel
theorem dX12_ticks_1 : decode cX12_ticks 1 = .ok (.getfield 153, 3) := by decide +kernel
theorem dX12_ticks_4 : decode cX12_ticks 4 = .ok (.iload_n 1, 1) := by decide +kernel
theorem dX12_ticks_5 : decode cX12_ticks 5 = .ok (.dup2, 1) := by decide +kernel
theorem dX12_ticks_6 : decode cX12_ticks 6 = .ok (.iaload, 1) := by decide +kernel
theorem dX12_ticks_7 : decode cX12_ticks 7 = .ok (.aload_n 0, 1) := by decide +kernel
theorem dX12_ticks_8 : decode cX12_ticks 8 = .ok (.iload_n 1, 1) := by decide +kernel
theorem dX12_ticks_9 : decode cX12_ticks 9 = .ok (.invokevirtual 484, 3) := by decide +kernel
theorem dX12_ticks_12 : decode cX12_ticks 12 = .ok (.iadd, 1) := by decide +kernel
theorem dX12_ticks_13 : decode cX12_ticks 13 = .ok (.iastore, 1) := by decide +kernel
theorem dX12_ticks_14 : decode cX12_ticks 14 = .ok (.aload_n 0, 1) := by decide +kernel
theorem dX12_ticks_15 : decode cX12_ticks 15 = .ok (.getfield 153, 3) := by decide +kernel
theorem dX12_ticks_18 : decode cX12_ticks 18 = .ok (.iload_n 1, 1) := by decide +kernel
theorem dX12_ticks_19 : decode cX12_ticks 19 = .ok (.iaload, 1) := by decide +kernel
theorem dX12_ticks_20 : decode cX12_ticks 20 = .ok (.sipush 9999, 3) := by decide +kernel
theorem dX12_ticks_23 : decode cX12_ticks 23 = .ok (.if_icmp .le 12, 3) := by decide +kernel
theorem dX12_ticks_26 : decode cX12_ticks 26 = .ok (.aload_n 0, 1) := by decide +kernel
theorem dX12_ticks_27 : decode cX12_ticks 27 = .ok (.getfield 153, 3) := by decide +kernel
theorem dX12_ticks_30 : decode cX12_ticks 30 = .ok (.iload_n 1, 1) := by decide +kernel
theorem dX12_ticks_31 : decode cX12_ticks 31 = .ok (.sipush 9999, 3) := by decide +kernel
theorem dX12_ticks_34 : decode cX12_ticks 34 = .ok (.iastore, 1) := by decide +kernel
theorem dX12_ticks_35 : decode cX12_ticks 35 = .ok (.iconst 0, 1) := by decide +kernel
theorem dX12_ticks_36 : decode cX12_ticks 36 = .ok (.istore_n 3, 1) := by decide +kernel
theorem dX12_ticks_37 : decode cX12_ticks 37 = .ok (.aload_n 0, 1) := by decide +kernel
theorem dX12_ticks_38 : decode cX12_ticks 38 = .ok (.getfield 72, 3) := by decide +kernel
theorem dX12_ticks_41 : decode cX12_ticks 41 = .ok (.aload_n 0, 1) := by decide +kernel
theorem dX12_ticks_42 : decode cX12_ticks 42 = .ok (.getfield 51, 3) := by decide +kernel
theorem dX12_ticks_45 : decode cX12_ticks 45 = .ok (.iaload, 1) := by decide +kernel
theorem dX12_ticks_46 : decode cX12_ticks 46 = .ok (.ifCond .le 154, 3) := by decide +kernel
theorem dX12_ticks_49 : decode cX12_ticks 49 = .ok (.aload_n 0, 1) := by decide +kernel
theorem dX12_ticks_50 : decode cX12_ticks 50 = .ok (.getfield 150, 3) := by decide +kernel
theorem dX12_ticks_53 : decode cX12_ticks 53 = .ok (.iload_n 1, 1) := by decide +kernel
theorem dX12_ticks_54 : decode cX12_ticks 54 = .ok (.iaload, 1) := by decide +kernel
theorem dX12_ticks_55 : decode cX12_ticks 55 = .ok (.aload_n 0, 1) := by decide +kernel
theorem dX12_ticks_56 : decode cX12_ticks 56 = .ok (.getfield 72, 3) := by decide +kernel
theorem dX12_ticks_59 : decode cX12_ticks 59 = .ok (.aload_n 0, 1) := by decide +kernel
theorem dX12_ticks_60 : decode cX12_ticks 60 = .ok (.getfield 51, 3) := by decide +kernel
theorem dX12_ticks_63 : decode cX12_ticks 63 = .ok (.iaload, 1) := by decide +kernel
theorem dX12_ticks_64 : decode cX12_ticks 64 = .ok (.irem, 1) := by decide +kernel
theorem dX12_ticks_65 : decode cX12_ticks 65 = .ok (.istore 4, 2) := by decide +kernel
theorem dX12_ticks_67 : decode cX12_ticks 67 = .ok (.aload_n 0, 1) := by decide +kernel
theorem dX12_ticks_68 : decode cX12_ticks 68 = .ok (.iload_n 1, 1) := by decide +kernel
theorem dX12_ticks_69 : decode cX12_ticks 69 = .ok (.iload 4, 2) := by decide +kernel
theorem dX12_ticks_71 : decode cX12_ticks 71 = .ok (.iload_n 2, 1) := by decide +kernel
theorem dX12_ticks_72 : decode cX12_ticks 72 = .ok (.iconst (-1), 1) := by decide +kernel
theorem dX12_ticks_73 : decode cX12_ticks 73 = .ok (.if_icmp .ne 10, 3) := by decide +kernel
theorem dX12_ticks_76 : decode cX12_ticks 76 = .ok (.aload_n 0, 1) := by decide +kernel
theorem dX12_ticks_77 : decode cX12_ticks 77 = .ok (.invokevirtual 487, 3) := by decide +kernel
theorem dX12_ticks_80 : decode cX12_ticks 80 = .ok (.goto 13, 3) := by decide +kernel
theorem dX12_ticks_83 : decode cX12_ticks 83 = .ok (.aload_n 0, 1) := by decide +kernel
theorem dX12_ticks_84 : decode cX12_ticks 84 = .ok (.invokevirtual 487, 3) := by decide +kernel
theorem dX12_ticks_87 : decode cX12_ticks 87 = .ok (.iconst 1, 1) := by decide +kernel
theorem dX12_ticks_88 : decode cX12_ticks 88 = .ok (.iload_n 2, 1) := by decide +kernel
theorem dX12_ticks_89 : decode cX12_ticks 89 = .ok (.ishl, 1) := by decide +kernel
theorem dX12_ticks_90 : decode cX12_ticks 90 = .ok (.iconst (-1), 1) := by decide +kernel
theorem dX12_ticks_91 : decode cX12_ticks 91 = .ok (.ixor, 1) := by decide +kernel
theorem dX12_ticks_92 : decode cX12_ticks 92 = .ok (.iand, 1) := by decide +kernel
theorem dX12_ticks_93 : decode cX12_ticks 93 = .ok (.invokevirtual 491, 3) := by decide +kernel
theorem dX12_ticks_96 : decode cX12_ticks 96 = .ok (.istore 5, 2) := by decide +kernel
theorem dX12_ticks_98 : decode cX12_ticks 98 = .ok (.iload 5, 2) := by decide +kernel
theorem dX12_ticks_100 : decode cX12_ticks 100 = .ok (.iconst (-1), 1) := by decide +kernel
theorem dX12_ticks_101 : decode cX12_ticks 101 = .ok (.if_icmp .eq 99, 3) := by decide +kernel
theorem dX12_ticks_104 : decode cX12_ticks 104 = .ok (.aload_n 0, 1) := by decide +kernel
theorem dX12_ticks_105 : decode cX12_ticks 105 = .ok (.getfield 69, 3) := by decide +kernel
theorem dX12_ticks_108 : decode cX12_ticks 108 = .ok (.bipush 6, 2) := by decide +kernel
theorem dX12_ticks_110 : decode cX12_ticks 110 = .ok (.aload_n 0, 1) := by decide +kernel
theorem dX12_ticks_111 : decode cX12_ticks 111 = .ok (.getfield 51, 3) := by decide +kernel
theorem dX12_ticks_114 : decode cX12_ticks 114 = .ok (.imul, 1) := by decide +kernel
theorem dX12_ticks_115 : decode cX12_ticks 115 = .ok (.iload 5, 2) := by decide +kernel
theorem dX12_ticks_117 : decode cX12_ticks 117 = .ok (.iadd, 1) := by decide +kernel
theorem dX12_ticks_118 : decode cX12_ticks 118 = .ok (.iaload, 1) := by decide +kernel
theorem dX12_ticks_119 : decode cX12_ticks 119 = .ok (.istore 6, 2) := by decide +kernel
theorem dX12_ticks_121 : decode cX12_ticks 121 = .ok (.iload 6, 2) := by decide +kernel
theorem dX12_ticks_123 : decode cX12_ticks 123 = .ok (.aload_n 0, 1) := by decide +kernel
theorem dX12_ticks_124 : decode cX12_ticks 124 = .ok (.getfield 153, 3) := by decide +kernel
theorem dX12_ticks_127 : decode cX12_ticks 127 = .ok (.iload_n 1, 1) := by decide +kernel
theorem dX12_ticks_128 : decode cX12_ticks 128 = .ok (.iaload, 1) := by decide +kernel
theorem dX12_ticks_129 : decode cX12_ticks 129 = .ok (.if_icmp .gt 24, 3) := by decide +kernel
theorem dX12_ticks_132 : decode cX12_ticks 132 = .ok (.aload_n 0, 1) := by decide +kernel
theorem dX12_ticks_133 : decode cX12_ticks 133 = .ok (.getfield 162, 3) := by decide +kernel
theorem dX12_ticks_136 : decode cX12_ticks 136 = .ok (.bipush 6, 2) := by decide +kernel
theorem dX12_ticks_138 : decode cX12_ticks 138 = .ok (.iload_n 1, 1) := by decide +kernel
theorem dX12_ticks_139 : decode cX12_ticks 139 = .ok (.imul, 1) := by decide +kernel
theorem dX12_ticks_140 : decode cX12_ticks 140 = .ok (.iload 4, 2) := by decide +kernel
theorem dX12_ticks_142 : decode cX12_ticks 142 = .ok (.iadd, 1) := by decide +kernel
theorem dX12_ticks_143 : decode cX12_ticks 143 = .ok (.iaload, 1) := by decide +kernel
theorem dX12_ticks_144 : decode cX12_ticks 144 = .ok (.iload 5, 2) := by decide +kernel
theorem dX12_ticks_146 : decode cX12_ticks 146 = .ok (.if_icmp .eq 7, 3) := by decide +kernel
theorem dX12_ticks_149 : decode cX12_ticks 149 = .ok (.iconst 1, 1) := by decide +kernel
theorem dX12_ticks_150 : decode cX12_ticks 150 = .ok (.goto 4, 3) := by decide +kernel
theorem dX12_ticks_153 : decode cX12_ticks 153 = .ok (.iconst 0, 1) := by decide +kernel
theorem dX12_ticks_154 : decode cX12_ticks 154 = .ok (.istore_n 3, 1) := by decide +kernel
theorem dX12_ticks_155 : decode cX12_ticks 155 = .ok (.aload_n 0, 1) := by decide +kernel
theorem dX12_ticks_156 : decode cX12_ticks 156 = .ok (.iload_n 1, 1) := by decide +kernel
theorem dX12_ticks_157 : decode cX12_ticks 157 = .ok (.iload 5, 2) := by decide +kernel
theorem dX12_ticks_159 : decode cX12_ticks 159 = .ok (.invokevirtual 494, 3) := by decide +kernel
theorem dX12_ticks_162 : decode cX12_ticks 162 = .ok (.iload_n 3, 1) := by decide +kernel
theorem dX12_ticks_163 : decode cX12_ticks 163 = .ok (.ifCond .eq 37, 3) := by decide +kernel
theorem dX12_ticks_166 : decode cX12_ticks 166 = .ok (.aload_n 0, 1) := by decide +kernel
theorem dX12_ticks_167 : decode cX12_ticks 167 = .ok (.getfield 162, 3) := by decide +kernel
theorem dX12_ticks_170 : decode cX12_ticks 170 = .ok (.bipush 6, 2) := by decide +kernel
theorem dX12_ticks_172 : decode cX12_ticks 172 = .ok (.iload_n 1, 1) := by decide +kernel
theorem dX12_ticks_173 : decode cX12_ticks 173 = .ok (.imul, 1) := by decide +kernel
theorem dX12_ticks_174 : decode cX12_ticks 174 = .ok (.iload 4, 2) := by decide +kernel
theorem dX12_ticks_176 : decode cX12_ticks 176 = .ok (.iadd, 1) := by decide +kernel
theorem dX12_ticks_177 : decode cX12_ticks 177 = .ok (.iload 5, 2) := by decide +kernel
theorem dX12_ticks_179 : decode cX12_ticks 179 = .ok (.iastore, 1) := by decide +kernel
theorem dX12_ticks_180 : decode cX12_ticks 180 = .ok (.aload_n 0, 1) := by decide +kernel
theorem dX12_ticks_181 : decode cX12_ticks 181 = .ok (.getfield 153, 3) := by decide +kernel
theorem dX12_ticks_184 : decode cX12_ticks 184 = .ok (.iload_n 1, 1) := by decide +kernel
theorem dX12_ticks_185 : decode cX12_ticks 185 = .ok (.dup2, 1) := by decide +kernel
theorem dX12_ticks_186 : decode cX12_ticks 186 = .ok (.iaload, 1) := by decide +kernel
theorem dX12_ticks_187 : decode cX12_ticks 187 = .ok (.iload 6, 2) := by decide +kernel
theorem dX12_ticks_189 : decode cX12_ticks 189 = .ok (.isub, 1) := by decide +kernel
theorem dX12_ticks_190 : decode cX12_ticks 190 = .ok (.iastore, 1) := by decide +kernel
theorem dX12_ticks_191 : decode cX12_ticks 191 = .ok (.aload_n 0, 1) := by decide +kernel
theorem dX12_ticks_192 : decode cX12_ticks 192 = .ok (.iload_n 1, 1) := by decide +kernel
theorem dX12_ticks_193 : decode cX12_ticks 193 = .ok (.iload 4, 2) := by decide +kernel
theorem dX12_ticks_195 : decode cX12_ticks 195 = .ok (.iload 5, 2) := by decide +kernel
theorem dX12_ticks_197 : decode cX12_ticks 197 = .ok (.invokevirtual 497, 3) := by decide +kernel
theorem dX12_ticks_200 : decode cX12_ticks 200 = .ok (.aload_n 0, 1) := by decide +kernel
theorem dX12_ticks_201 : decode cX12_ticks 201 = .ok (.getfield 150, 3) := by decide +kernel
theorem dX12_ticks_204 : decode cX12_ticks 204 = .ok (.iload_n 1, 1) := by decide +kernel
theorem dX12_ticks_205 : decode cX12_ticks 205 = .ok (.dup2, 1) := by decide +kernel
theorem dX12_ticks_206 : decode cX12_ticks 206 = .ok (.iaload, 1) := by decide +kernel
theorem dX12_ticks_207 : decode cX12_ticks 207 = .ok (.iconst 1, 1) := by decide +kernel
theorem dX12_ticks_208 : decode cX12_ticks 208 = .ok (.iadd, 1) := by decide +kernel
theorem dX12_ticks_209 : decode cX12_ticks 209 = .ok (.iastore, 1) := by decide +kernel
theorem dX12_ticks_210 : decode cX12_ticks 210 = .ok (.iload_n 3, 1) := by decide +kernel
theorem dX12_ticks_211 : decode cX12_ticks 211 = .ok (.ireturn, 1) := by decide +kernel
theorem dX12_isBlind_0 : decode cX12_isBlind 0 = .ok (.iload_n 1, 1) := by decide +kernel
theorem dX12_isBlind_1 : decode cX12_isBlind 1 = .ok (.ifCond .lt 20, 3) := by decide +kernel
theorem dX12_isBlind_4 : decode cX12_isBlind 4 = .ok (.iload_n 1, 1) := by decide +kernel
theorem dX12_isBlind_5 : decode cX12_isBlind 5 = .ok (.aload_n 0, 1) := by decide +kernel
theorem dX12_isBlind_6 : decode cX12_isBlind 6 = .ok (.getfield 54, 3) := by decide +kernel
theorem dX12_isBlind_9 : decode cX12_isBlind 9 = .ok (.aload_n 0, 1) := by decide +kernel
theorem dX12_isBlind_10 : decode cX12_isBlind 10 = .ok (.getfield 51, 3) := by decide +kernel
theorem dX12_isBlind_13 : decode cX12_isBlind 13 = .ok (.iaload, 1) := by decide +kernel
theorem dX12_isBlind_14 : decode cX12_isBlind 14 = .ok (.if_icmp .ge 7, 3) := by decide +kernel
theorem dX12_isBlind_17 : decode cX12_isBlind 17 = .ok (.iconst 1, 1) := by decide +kernel
theorem dX12_isBlind_18 : decode cX12_isBlind 18 = .ok (.goto 4, 3) := by decide +kernel
theorem dX12_isBlind_21 : decode cX12_isBlind 21 = .ok (.iconst 0, 1) := by decide +kernel
theorem dX12_isBlind_22 : decode cX12_isBlind 22 = .ok (.ireturn, 1) := by decide +kernel
theorem dX12_isColour_0 : decode cX12_isColour 0 = .ok (.iload_n 1, 1) := by decide +kernel
theorem dX12_isColour_1 : decode cX12_isColour 1 = .ok (.ifCond .lt 20, 3) := by decide +kernel
theorem dX12_isColour_4 : decode cX12_isColour 4 = .ok (.iload_n 1, 1) := by decide +kernel
theorem dX12_isColour_5 : decode cX12_isColour 5 = .ok (.aload_n 0, 1) := by decide +kernel
theorem dX12_isColour_6 : decode cX12_isColour 6 = .ok (.getfield 63, 3) := by decide +kernel
theorem dX12_isColour_9 : decode cX12_isColour 9 = .ok (.aload_n 0, 1) := by decide +kernel
theorem dX12_isColour_10 : decode cX12_isColour 10 = .ok (.getfield 51, 3) := by decide +kernel
theorem dX12_isColour_13 : decode cX12_isColour 13 = .ok (.iaload, 1) := by decide +kernel
theorem dX12_isColour_14 : decode cX12_isColour 14 = .ok (.if_icmp .ge 7, 3) := by decide +kernel
theorem dX12_isColour_17 : decode cX12_isColour 17 = .ok (.iconst 1, 1) := by decide +kernel
theorem dX12_isColour_18 : decode cX12_isColour 18 = .ok (.goto 4, 3) := by decide +kernel
theorem dX12_isColour_21 : decode cX12_isColour 21 = .ok (.iconst 0, 1) := by decide +kernel
theorem dX12_isColour_22 : decode cX12_isColour 22 = .ok (.ireturn, 1) := by decide +kernel
theorem dX12_isThing_0 : decode cX12_isThing 0 = .ok (.iload_n 1, 1) := by decide +kernel
theorem dX12_isThing_1 : decode cX12_isThing 1 = .ok (.ifCond .lt 20, 3) := by decide +kernel
theorem dX12_isThing_4 : decode cX12_isThing 4 = .ok (.iload_n 1, 1) := by decide +kernel
theorem dX12_isThing_5 : decode cX12_isThing 5 = .ok (.aload_n 0, 1) := by decide +kernel
theorem dX12_isThing_6 : decode cX12_isThing 6 = .ok (.getfield 72, 3) := by decide +kernel
theorem dX12_isThing_9 : decode cX12_isThing 9 = .ok (.aload_n 0, 1) := by decide +kernel
theorem dX12_isThing_10 : decode cX12_isThing 10 = .ok (.getfield 51, 3) := by decide +kernel
theorem dX12_isThing_13 : decode cX12_isThing 13 = .ok (.iaload, 1) := by decide +kernel
theorem dX12_isThing_14 : decode cX12_isThing 14 = .ok (.if_icmp .ge 7, 3) := by decide +kernel
theorem dX12_isThing_17 : decode cX12_isThing 17 = .ok (.iconst 1, 1) := by decide +kernel
theorem dX12_isThing_18 : decode cX12_isThing 18 = .ok (.goto 4, 3) := by decide +kernel
theorem dX12_isThing_21 : decode cX12_isThing 21 = .ok (.iconst 0, 1) := by decide +kernel
theorem dX12_isThing_22 : decode cX12_isThing 22 = .ok (.ireturn, 1) := by decide +kernel
theorem dX12_nearSet_0 : decode cX12_nearSet 0 = .ok (.aload_n 0, 1) := by decide +kernel
theorem dX12_nearSet_1 : decode cX12_nearSet 1 = .ok (.getfield 78, 3) := by decide +kernel
theorem dX12_nearSet_4 : decode cX12_nearSet 4 = .ok (.bipush 6, 2) := by decide +kernel
theorem dX12_nearSet_6 : decode cX12_nearSet 6 = .ok (.aload_n 0, 1) := by decide +kernel
theorem dX12_nearSet_7 : decode cX12_nearSet 7 = .ok (.getfield 51, 3) := by decide +kernel
theorem dX12_nearSet_10 : decode cX12_nearSet 10 = .ok (.imul, 1) := by decide +kernel
theorem dX12_nearSet_11 : decode cX12_nearSet 11 = .ok (.iload_n 1, 1) := by decide +kernel
theorem dX12_nearSet_12 : decode cX12_nearSet 12 = .ok (.iadd, 1) := by decide +kernel
theorem dX12_nearSet_13 : decode cX12_nearSet 13 = .ok (.iaload, 1) := by decide +kernel
theorem dX12_nearSet_14 : decode cX12_nearSet 14 = .ok (.ireturn, 1) := by decide +kernel
theorem dX12_clashes_0 : decode cX12_clashes 0 = .ok (.iconst 0, 1) := by decide +kernel
theorem dX12_clashes_1 : decode cX12_clashes 1 = .ok (.istore_n 1, 1) := by decide +kernel
theorem dX12_clashes_2 : decode cX12_clashes 2 = .ok (.iconst 0, 1) := by decide +kernel
theorem dX12_clashes_3 : decode cX12_clashes 3 = .ok (.istore_n 2, 1) := by decide +kernel
theorem dX12_clashes_4 : decode cX12_clashes 4 = .ok (.iload_n 2, 1) := by decide +kernel
theorem dX12_clashes_5 : decode cX12_clashes 5 = .ok (.aload_n 0, 1) := by decide +kernel
theorem dX12_clashes_6 : decode cX12_clashes 6 = .ok (.getfield 72, 3) := by decide +kernel
theorem dX12_clashes_9 : decode cX12_clashes 9 = .ok (.aload_n 0, 1) := by decide +kernel
theorem dX12_clashes_10 : decode cX12_clashes 10 = .ok (.getfield 51, 3) := by decide +kernel
theorem dX12_clashes_13 : decode cX12_clashes 13 = .ok (.iaload, 1) := by decide +kernel
theorem dX12_clashes_14 : decode cX12_clashes 14 = .ok (.if_icmp .ge 77, 3) := by decide +kernel
theorem dX12_clashes_17 : decode cX12_clashes 17 = .ok (.iload_n 2, 1) := by decide +kernel
theorem dX12_clashes_18 : decode cX12_clashes 18 = .ok (.iconst 1, 1) := by decide +kernel
theorem dX12_clashes_19 : decode cX12_clashes 19 = .ok (.iadd, 1) := by decide +kernel
theorem dX12_clashes_20 : decode cX12_clashes 20 = .ok (.istore_n 3, 1) := by decide +kernel
theorem dX12_clashes_21 : decode cX12_clashes 21 = .ok (.iload_n 3, 1) := by decide +kernel
theorem dX12_clashes_22 : decode cX12_clashes 22 = .ok (.aload_n 0, 1) := by decide +kernel
theorem dX12_clashes_23 : decode cX12_clashes 23 = .ok (.getfield 72, 3) := by decide +kernel
theorem dX12_clashes_26 : decode cX12_clashes 26 = .ok (.aload_n 0, 1) := by decide +kernel
theorem dX12_clashes_27 : decode cX12_clashes 27 = .ok (.getfield 51, 3) := by decide +kernel
theorem dX12_clashes_30 : decode cX12_clashes 30 = .ok (.iaload, 1) := by decide +kernel
theorem dX12_clashes_31 : decode cX12_clashes 31 = .ok (.if_icmp .ge 54, 3) := by decide +kernel
theorem dX12_clashes_34 : decode cX12_clashes 34 = .ok (.iload_n 1, 1) := by decide +kernel
theorem dX12_clashes_35 : decode cX12_clashes 35 = .ok (.aload_n 0, 1) := by decide +kernel
theorem dX12_clashes_36 : decode cX12_clashes 36 = .ok (.iload_n 2, 1) := by decide +kernel
theorem dX12_clashes_37 : decode cX12_clashes 37 = .ok (.invokevirtual 501, 3) := by decide +kernel
theorem dX12_clashes_40 : decode cX12_clashes 40 = .ok (.iload_n 3, 1) := by decide +kernel
theorem dX12_clashes_41 : decode cX12_clashes 41 = .ok (.invokestatic 351, 3) := by decide +kernel
theorem dX12_clashes_44 : decode cX12_clashes 44 = .ok (.ifCond .eq 32, 3) := by decide +kernel
theorem dX12_clashes_47 : decode cX12_clashes 47 = .ok (.aload_n 0, 1) := by decide +kernel
theorem dX12_clashes_48 : decode cX12_clashes 48 = .ok (.getfield 162, 3) := by decide +kernel
theorem dX12_clashes_51 : decode cX12_clashes 51 = .ok (.iload_n 2, 1) := by decide +kernel
theorem dX12_clashes_52 : decode cX12_clashes 52 = .ok (.iaload, 1) := by decide +kernel
theorem dX12_clashes_53 : decode cX12_clashes 53 = .ok (.iconst (-1), 1) := by decide +kernel
theorem dX12_clashes_54 : decode cX12_clashes 54 = .ok (.if_icmp .eq 22, 3) := by decide +kernel
theorem dX12_clashes_57 : decode cX12_clashes 57 = .ok (.aload_n 0, 1) := by decide +kernel
theorem dX12_clashes_58 : decode cX12_clashes 58 = .ok (.getfield 162, 3) := by decide +kernel
theorem dX12_clashes_61 : decode cX12_clashes 61 = .ok (.iload_n 2, 1) := by decide +kernel
theorem dX12_clashes_62 : decode cX12_clashes 62 = .ok (.iaload, 1) := by decide +kernel
theorem dX12_clashes_63 : decode cX12_clashes 63 = .ok (.aload_n 0, 1) := by decide +kernel
theorem dX12_clashes_64 : decode cX12_clashes 64 = .ok (.getfield 162, 3) := by decide +kernel
theorem dX12_clashes_67 : decode cX12_clashes 67 = .ok (.iload_n 3, 1) := by decide +kernel
theorem dX12_clashes_68 : decode cX12_clashes 68 = .ok (.iaload, 1) := by decide +kernel
theorem dX12_clashes_69 : decode cX12_clashes 69 = .ok (.if_icmp .ne 7, 3) := by decide +kernel
theorem dX12_clashes_72 : decode cX12_clashes 72 = .ok (.iconst 1, 1) := by decide +kernel
theorem dX12_clashes_73 : decode cX12_clashes 73 = .ok (.goto 4, 3) := by decide +kernel
theorem dX12_clashes_76 : decode cX12_clashes 76 = .ok (.iconst 0, 1) := by decide +kernel
theorem dX12_clashes_77 : decode cX12_clashes 77 = .ok (.iadd, 1) := by decide +kernel
theorem dX12_clashes_78 : decode cX12_clashes 78 = .ok (.istore_n 1, 1) := by decide +kernel
theorem dX12_clashes_79 : decode cX12_clashes 79 = .ok (.iinc 3 1, 3) := by decide +kernel
theorem dX12_clashes_82 : decode cX12_clashes 82 = .ok (.goto (-61), 3) := by decide +kernel
theorem dX12_clashes_85 : decode cX12_clashes 85 = .ok (.iinc 2 1, 3) := by decide +kernel
theorem dX12_clashes_88 : decode cX12_clashes 88 = .ok (.goto (-84), 3) := by decide +kernel
theorem dX12_clashes_91 : decode cX12_clashes 91 = .ok (.iload_n 1, 1) := by decide +kernel
theorem dX12_clashes_92 : decode cX12_clashes 92 = .ok (.ireturn, 1) := by decide +kernel
theorem dX12_has_0 : decode cX12_has 0 = .ok (.iload_n 1, 1) := by decide +kernel
theorem dX12_has_1 : decode cX12_has 1 = .ok (.tableswitch 138 0 10 #[59, 69, 79, 89, 96, 103, 110, 115, 122, 127, 132], 59) := by decide +kernel
theorem dX12_has_60 : decode cX12_has 60 = .ok (.aload_n 0, 1) := by decide +kernel
theorem dX12_has_61 : decode cX12_has 61 = .ok (.getfield 54, 3) := by decide +kernel
theorem dX12_has_64 : decode cX12_has 64 = .ok (.aload_n 0, 1) := by decide +kernel
theorem dX12_has_65 : decode cX12_has 65 = .ok (.getfield 51, 3) := by decide +kernel
theorem dX12_has_68 : decode cX12_has 68 = .ok (.iaload, 1) := by decide +kernel
theorem dX12_has_69 : decode cX12_has 69 = .ok (.ireturn, 1) := by decide +kernel
theorem dX12_has_70 : decode cX12_has 70 = .ok (.aload_n 0, 1) := by decide +kernel
theorem dX12_has_71 : decode cX12_has 71 = .ok (.getfield 63, 3) := by decide +kernel
theorem dX12_has_74 : decode cX12_has 74 = .ok (.aload_n 0, 1) := by decide +kernel
theorem dX12_has_75 : decode cX12_has 75 = .ok (.getfield 51, 3) := by decide +kernel
theorem dX12_has_78 : decode cX12_has 78 = .ok (.iaload, 1) := by decide +kernel
theorem dX12_has_79 : decode cX12_has 79 = .ok (.ireturn, 1) := by decide +kernel
theorem dX12_has_80 : decode cX12_has 80 = .ok (.aload_n 0, 1) := by decide +kernel
theorem dX12_has_81 : decode cX12_has 81 = .ok (.getfield 72, 3) := by decide +kernel
theorem dX12_has_84 : decode cX12_has 84 = .ok (.aload_n 0, 1) := by decide +kernel
theorem dX12_has_85 : decode cX12_has 85 = .ok (.getfield 51, 3) := by decide +kernel
theorem dX12_has_88 : decode cX12_has 88 = .ok (.iaload, 1) := by decide +kernel
theorem dX12_has_89 : decode cX12_has 89 = .ok (.ireturn, 1) := by decide +kernel
theorem dX12_has_90 : decode cX12_has 90 = .ok (.aload_n 0, 1) := by decide +kernel
theorem dX12_has_91 : decode cX12_has 91 = .ok (.getfield 150, 3) := by decide +kernel
theorem dX12_has_94 : decode cX12_has 94 = .ok (.iconst 0, 1) := by decide +kernel
theorem dX12_has_95 : decode cX12_has 95 = .ok (.iaload, 1) := by decide +kernel
theorem dX12_has_96 : decode cX12_has 96 = .ok (.ireturn, 1) := by decide +kernel
theorem dX12_has_97 : decode cX12_has 97 = .ok (.aload_n 0, 1) := by decide +kernel
theorem dX12_has_98 : decode cX12_has 98 = .ok (.getfield 153, 3) := by decide +kernel
theorem dX12_has_101 : decode cX12_has 101 = .ok (.iconst 0, 1) := by decide +kernel
theorem dX12_has_102 : decode cX12_has 102 = .ok (.iaload, 1) := by decide +kernel
theorem dX12_has_103 : decode cX12_has 103 = .ok (.ireturn, 1) := by decide +kernel
theorem dX12_has_104 : decode cX12_has 104 = .ok (.aload_n 0, 1) := by decide +kernel
theorem dX12_has_105 : decode cX12_has 105 = .ok (.iconst 0, 1) := by decide +kernel
theorem dX12_has_106 : decode cX12_has 106 = .ok (.iconst (-1), 1) := by decide +kernel
theorem dX12_has_107 : decode cX12_has 107 = .ok (.invokevirtual 456, 3) := by decide +kernel
theorem dX12_has_110 : decode cX12_has 110 = .ok (.ireturn, 1) := by decide +kernel
theorem dX12_has_111 : decode cX12_has 111 = .ok (.aload_n 0, 1) := by decide +kernel
theorem dX12_has_112 : decode cX12_has 112 = .ok (.invokevirtual 504, 3) := by decide +kernel
theorem dX12_has_115 : decode cX12_has 115 = .ok (.ireturn, 1) := by decide +kernel
theorem dX12_has_116 : decode cX12_has 116 = .ok (.aload_n 0, 1) := by decide +kernel
theorem dX12_has_117 : decode cX12_has 117 = .ok (.getfield 165, 3) := by decide +kernel
theorem dX12_has_120 : decode cX12_has 120 = .ok (.iconst 0, 1) := by decide +kernel
theorem dX12_has_121 : decode cX12_has 121 = .ok (.iaload, 1) := by decide +kernel
theorem dX12_has_122 : decode cX12_has 122 = .ok (.ireturn, 1) := by decide +kernel
theorem dX12_has_123 : decode cX12_has 123 = .ok (.aload_n 0, 1) := by decide +kernel
theorem dX12_has_124 : decode cX12_has 124 = .ok (.getfield 201, 3) := by decide +kernel
theorem dX12_has_127 : decode cX12_has 127 = .ok (.ireturn, 1) := by decide +kernel
theorem dX12_has_128 : decode cX12_has 128 = .ok (.aload_n 0, 1) := by decide +kernel
theorem dX12_has_129 : decode cX12_has 129 = .ok (.getfield 174, 3) := by decide +kernel
theorem dX12_has_132 : decode cX12_has 132 = .ok (.ireturn, 1) := by decide +kernel
theorem dX12_has_133 : decode cX12_has 133 = .ok (.aload_n 0, 1) := by decide +kernel
theorem dX12_has_134 : decode cX12_has 134 = .ok (.getfield 177, 3) := by decide +kernel
theorem dX12_has_137 : decode cX12_has 137 = .ok (.l2i, 1) := by decide +kernel
theorem dX12_has_138 : decode cX12_has 138 = .ok (.ireturn, 1) := by decide +kernel
theorem dX12_has_139 : decode cX12_has 139 = .ok (.iconst (-1), 1) := by decide +kernel
theorem dX12_has_140 : decode cX12_has 140 = .ok (.ireturn, 1) := by decide +kernel
theorem dX12_letter_0 : decode cX12_letter 0 = .ok (.iload_n 1, 1) := by decide +kernel
theorem dX12_letter_1 : decode cX12_letter 1 = .ok (.ifCond .ne 11, 3) := by decide +kernel
theorem dX12_letter_4 : decode cX12_letter 4 = .ok (.aload_n 0, 1) := by decide +kernel
theorem dX12_letter_5 : decode cX12_letter 5 = .ok (.iload_n 2, 1) := by decide +kernel
theorem dX12_letter_6 : decode cX12_letter 6 = .ok (.invokevirtual 507, 3) := by decide +kernel
theorem dX12_letter_9 : decode cX12_letter 9 = .ok (.goto 34, 3) := by decide +kernel
theorem dX12_letter_12 : decode cX12_letter 12 = .ok (.iload_n 1, 1) := by decide +kernel
theorem dX12_letter_13 : decode cX12_letter 13 = .ok (.iconst 1, 1) := by decide +kernel
theorem dX12_letter_14 : decode cX12_letter 14 = .ok (.if_icmp .ne 11, 3) := by decide +kernel
theorem dX12_letter_17 : decode cX12_letter 17 = .ok (.aload_n 0, 1) := by decide +kernel
theorem dX12_letter_18 : decode cX12_letter 18 = .ok (.iload_n 2, 1) := by decide +kernel
theorem dX12_letter_19 : decode cX12_letter 19 = .ok (.invokevirtual 510, 3) := by decide +kernel
theorem dX12_letter_22 : decode cX12_letter 22 = .ok (.goto 21, 3) := by decide +kernel
theorem dX12_letter_25 : decode cX12_letter 25 = .ok (.iload_n 1, 1) := by decide +kernel
theorem dX12_letter_26 : decode cX12_letter 26 = .ok (.iconst 2, 1) := by decide +kernel
theorem dX12_letter_27 : decode cX12_letter 27 = .ok (.if_icmp .ne 15, 3) := by decide +kernel
theorem dX12_letter_30 : decode cX12_letter 30 = .ok (.aload_n 0, 1) := by decide +kernel
theorem dX12_letter_31 : decode cX12_letter 31 = .ok (.iload_n 2, 1) := by decide +kernel
theorem dX12_letter_32 : decode cX12_letter 32 = .ok (.invokevirtual 513, 3) := by decide +kernel
theorem dX12_letter_35 : decode cX12_letter 35 = .ok (.ifCond .eq 7, 3) := by decide +kernel
theorem dX12_letter_38 : decode cX12_letter 38 = .ok (.iconst 1, 1) := by decide +kernel
theorem dX12_letter_39 : decode cX12_letter 39 = .ok (.goto 4, 3) := by decide +kernel
theorem dX12_letter_42 : decode cX12_letter 42 = .ok (.iconst 0, 1) := by decide +kernel
theorem dX12_letter_43 : decode cX12_letter 43 = .ok (.istore 4, 2) := by decide +kernel
theorem dX12_letter_45 : decode cX12_letter 45 = .ok (.iload 4, 2) := by decide +kernel
theorem dX12_letter_47 : decode cX12_letter 47 = .ok (.ifCond .eq 12, 3) := by decide +kernel
theorem dX12_letter_50 : decode cX12_letter 50 = .ok (.iload_n 3, 1) := by decide +kernel
theorem dX12_letter_51 : decode cX12_letter 51 = .ok (.iconst 0, 1) := by decide +kernel
theorem dX12_letter_52 : decode cX12_letter 52 = .ok (.iconst 5, 1) := by decide +kernel
theorem dX12_letter_53 : decode cX12_letter 53 = .ok (.invokestatic 309, 3) := by decide +kernel
theorem dX12_letter_56 : decode cX12_letter 56 = .ok (.ifCond .ne 5, 3) := by decide +kernel
theorem dX12_letter_59 : decode cX12_letter 59 = .ok (.iconst (-1), 1) := by decide +kernel
theorem dX12_letter_60 : decode cX12_letter 60 = .ok (.ireturn, 1) := by decide +kernel
theorem dX12_letter_61 : decode cX12_letter 61 = .ok (.aload_n 0, 1) := by decide +kernel
theorem dX12_letter_62 : decode cX12_letter 62 = .ok (.getfield 102, 3) := by decide +kernel
theorem dX12_letter_65 : decode cX12_letter 65 = .ok (.bipush 18, 2) := by decide +kernel
theorem dX12_letter_67 : decode cX12_letter 67 = .ok (.aload_n 0, 1) := by decide +kernel
theorem dX12_letter_68 : decode cX12_letter 68 = .ok (.getfield 51, 3) := by decide +kernel
theorem dX12_letter_71 : decode cX12_letter 71 = .ok (.imul, 1) := by decide +kernel
theorem dX12_letter_72 : decode cX12_letter 72 = .ok (.bipush 6, 2) := by decide +kernel
theorem dX12_letter_74 : decode cX12_letter 74 = .ok (.iload_n 1, 1) := by decide +kernel
theorem dX12_letter_75 : decode cX12_letter 75 = .ok (.imul, 1) := by decide +kernel
theorem dX12_letter_76 : decode cX12_letter 76 = .ok (.iadd, 1) := by decide +kernel
theorem dX12_letter_77 : decode cX12_letter 77 = .ok (.iload_n 2, 1) := by decide +kernel
theorem dX12_letter_78 : decode cX12_letter 78 = .ok (.iadd, 1) := by decide +kernel
theorem dX12_letter_79 : decode cX12_letter 79 = .ok (.laload, 1) := by decide +kernel
theorem dX12_letter_80 : decode cX12_letter 80 = .ok (.lstore 5, 2) := by decide +kernel
theorem dX12_letter_82 : decode cX12_letter 82 = .ok (.iconst 0, 1) := by decide +kernel
theorem dX12_letter_83 : decode cX12_letter 83 = .ok (.istore 7, 2) := by decide +kernel
theorem dX12_letter_85 : decode cX12_letter 85 = .ok (.lload 5, 2) := by decide +kernel
theorem dX12_letter_87 : decode cX12_letter 87 = .ok (.lstore 8, 2) := by decide +kernel
theorem dX12_letter_89 : decode cX12_letter 89 = .ok (.lload 8, 2) := by decide +kernel
theorem dX12_letter_91 : decode cX12_letter 91 = .ok (.lconst 0, 1) := by decide +kernel
theorem dX12_letter_92 : decode cX12_letter 92 = .ok (.lcmp, 1) := by decide +kernel
theorem dX12_letter_93 : decode cX12_letter 93 = .ok (.ifCond .le 16, 3) := by decide +kernel
theorem dX12_letter_96 : decode cX12_letter 96 = .ok (.iinc 7 1, 3) := by decide +kernel
theorem dX12_letter_99 : decode cX12_letter 99 = .ok (.lload 8, 2) := by decide +kernel
theorem dX12_letter_101 : decode cX12_letter 101 = .ok (.bipush 8, 2) := by decide +kernel
theorem dX12_letter_103 : decode cX12_letter 103 = .ok (.lshr, 1) := by decide +kernel
theorem dX12_letter_104 : decode cX12_letter 104 = .ok (.lstore 8, 2) := by decide +kernel
theorem dX12_letter_106 : decode cX12_letter 106 = .ok (.goto (-17), 3) := by decide +kernel
theorem dX12_letter_109 : decode cX12_letter 109 = .ok (.iload_n 3, 1) := by decide +kernel
theorem dX12_letter_110 : decode cX12_letter 110 = .ok (.iload 7, 2) := by decide +kernel
theorem dX12_letter_112 : decode cX12_letter 112 = .ok (.if_icmp .lt 7, 3) := by decide +kernel
theorem dX12_letter_115 : decode cX12_letter 115 = .ok (.iconst 0, 1) := by decide +kernel
theorem dX12_letter_116 : decode cX12_letter 116 = .ok (.goto 25, 3) := by decide +kernel
theorem dX12_letter_119 : decode cX12_letter 119 = .ok (.lload 5, 2) := by decide +kernel
theorem dX12_letter_121 : decode cX12_letter 121 = .ok (.bipush 8, 2) := by decide +kernel
theorem dX12_letter_123 : decode cX12_letter 123 = .ok (.iload 7, 2) := by decide +kernel
theorem dX12_letter_125 : decode cX12_letter 125 = .ok (.iconst 1, 1) := by decide +kernel
theorem dX12_letter_126 : decode cX12_letter 126 = .ok (.isub, 1) := by decide +kernel
theorem dX12_letter_127 : decode cX12_letter 127 = .ok (.iload_n 3, 1) := by decide +kernel
theorem dX12_letter_128 : decode cX12_letter 128 = .ok (.isub, 1) := by decide +kernel
theorem dX12_letter_129 : decode cX12_letter 129 = .ok (.imul, 1) := by decide +kernel
theorem dX12_letter_130 : decode cX12_letter 130 = .ok (.lshr, 1) := by decide +kernel
theorem dX12_letter_131 : decode cX12_letter 131 = .ok (.ldc2_w 516, 3) := by decide +kernel
theorem dX12_letter_134 : decode cX12_letter 134 = .ok (.land, 1) := by decide +kernel
theorem dX12_letter_135 : decode cX12_letter 135 = .ok (.l2i, 1) := by decide +kernel
theorem dX12_letter_136 : decode cX12_letter 136 = .ok (.bipush 97, 2) := by decide +kernel
theorem dX12_letter_138 : decode cX12_letter 138 = .ok (.isub, 1) := by decide +kernel
theorem dX12_letter_139 : decode cX12_letter 139 = .ok (.iconst 1, 1) := by decide +kernel
theorem dX12_letter_140 : decode cX12_letter 140 = .ok (.iadd, 1) := by decide +kernel
theorem dX12_letter_141 : decode cX12_letter 141 = .ok (.ireturn, 1) := by decide +kernel
theorem dX12_placeOf_0 : decode cX12_placeOf 0 = .ok (.iconst 0, 1) := by decide +kernel
theorem dX12_placeOf_1 : decode cX12_placeOf 1 = .ok (.istore_n 2, 1) := by decide +kernel
theorem dX12_placeOf_2 : decode cX12_placeOf 2 = .ok (.iload_n 2, 1) := by decide +kernel
theorem dX12_placeOf_3 : decode cX12_placeOf 3 = .ok (.aload_n 0, 1) := by decide +kernel
theorem dX12_placeOf_4 : decode cX12_placeOf 4 = .ok (.getfield 54, 3) := by decide +kernel
theorem dX12_placeOf_7 : decode cX12_placeOf 7 = .ok (.aload_n 0, 1) := by decide +kernel
theorem dX12_placeOf_8 : decode cX12_placeOf 8 = .ok (.getfield 51, 3) := by decide +kernel
theorem dX12_placeOf_11 : decode cX12_placeOf 11 = .ok (.iaload, 1) := by decide +kernel
theorem dX12_placeOf_12 : decode cX12_placeOf 12 = .ok (.if_icmp .ge 21, 3) := by decide +kernel
theorem dX12_placeOf_15 : decode cX12_placeOf 15 = .ok (.aload_n 0, 1) := by decide +kernel
theorem dX12_placeOf_16 : decode cX12_placeOf 16 = .ok (.getfield 156, 3) := by decide +kernel
theorem dX12_placeOf_19 : decode cX12_placeOf 19 = .ok (.iload_n 2, 1) := by decide +kernel
theorem dX12_placeOf_20 : decode cX12_placeOf 20 = .ok (.iaload, 1) := by decide +kernel
theorem dX12_placeOf_21 : decode cX12_placeOf 21 = .ok (.iload_n 1, 1) := by decide +kernel
theorem dX12_placeOf_22 : decode cX12_placeOf 22 = .ok (.if_icmp .ne 5, 3) := by decide +kernel
theorem dX12_placeOf_25 : decode cX12_placeOf 25 = .ok (.iload_n 2, 1) := by decide +kernel
theorem dX12_placeOf_26 : decode cX12_placeOf 26 = .ok (.ireturn, 1) := by decide +kernel
theorem dX12_placeOf_27 : decode cX12_placeOf 27 = .ok (.iinc 2 1, 3) := by decide +kernel
theorem dX12_placeOf_30 : decode cX12_placeOf 30 = .ok (.goto (-28), 3) := by decide +kernel
theorem dX12_placeOf_33 : decode cX12_placeOf 33 = .ok (.iconst (-1), 1) := by decide +kernel
theorem dX12_placeOf_34 : decode cX12_placeOf 34 = .ok (.ireturn, 1) := by decide +kernel
theorem dX12_blind_0 : decode cX12_blind 0 = .ok (.aload_n 0, 1) := by decide +kernel
theorem dX12_blind_1 : decode cX12_blind 1 = .ok (.iload_n 1, 1) := by decide +kernel
theorem dX12_blind_2 : decode cX12_blind 2 = .ok (.invokevirtual 507, 3) := by decide +kernel
theorem dX12_blind_5 : decode cX12_blind 5 = .ok (.ifCond .ne 5, 3) := by decide +kernel
theorem dX12_blind_8 : decode cX12_blind 8 = .ok (.iconst (-1), 1) := by decide +kernel
theorem dX12_blind_9 : decode cX12_blind 9 = .ok (.ireturn, 1) := by decide +kernel
theorem dX12_blind_10 : decode cX12_blind 10 = .ok (.iload_n 2, 1) := by decide +kernel
theorem dX12_blind_11 : decode cX12_blind 11 = .ok (.tableswitch 110 0 6 #[41, 41, 41, 60, 82, 89, 95], 41) := by decide +kernel
theorem dX12_blind_52 : decode cX12_blind 52 = .ok (.aload_n 0, 1) := by decide +kernel
theorem dX12_blind_53 : decode cX12_blind 53 = .ok (.getfield 57, 3) := by decide +kernel
theorem dX12_blind_56 : decode cX12_blind 56 = .ok (.bipush 18, 2) := by decide +kernel
theorem dX12_blind_58 : decode cX12_blind 58 = .ok (.aload_n 0, 1) := by decide +kernel
theorem dX12_blind_59 : decode cX12_blind 59 = .ok (.getfield 51, 3) := by decide +kernel
theorem dX12_blind_62 : decode cX12_blind 62 = .ok (.imul, 1) := by decide +kernel
theorem dX12_blind_63 : decode cX12_blind 63 = .ok (.iconst 3, 1) := by decide +kernel
theorem dX12_blind_64 : decode cX12_blind 64 = .ok (.iload_n 1, 1) := by decide +kernel
theorem dX12_blind_65 : decode cX12_blind 65 = .ok (.imul, 1) := by decide +kernel
theorem dX12_blind_66 : decode cX12_blind 66 = .ok (.iadd, 1) := by decide +kernel
theorem dX12_blind_67 : decode cX12_blind 67 = .ok (.iload_n 2, 1) := by decide +kernel
theorem dX12_blind_68 : decode cX12_blind 68 = .ok (.iadd, 1) := by decide +kernel
theorem dX12_blind_69 : decode cX12_blind 69 = .ok (.iaload, 1) := by decide +kernel
theorem dX12_blind_70 : decode cX12_blind 70 = .ok (.ireturn, 1) := by decide +kernel
theorem dX12_blind_71 : decode cX12_blind 71 = .ok (.aload_n 0, 1) := by decide +kernel
theorem dX12_blind_72 : decode cX12_blind 72 = .ok (.getfield 60, 3) := by decide +kernel
theorem dX12_blind_75 : decode cX12_blind 75 = .ok (.aload_n 0, 1) := by decide +kernel
theorem dX12_blind_76 : decode cX12_blind 76 = .ok (.getfield 51, 3) := by decide +kernel
theorem dX12_blind_79 : decode cX12_blind 79 = .ok (.iaload, 1) := by decide +kernel
theorem dX12_blind_80 : decode cX12_blind 80 = .ok (.iload_n 1, 1) := by decide +kernel
theorem dX12_blind_81 : decode cX12_blind 81 = .ok (.invokestatic 351, 3) := by decide +kernel
theorem dX12_blind_84 : decode cX12_blind 84 = .ok (.ifCond .eq 7, 3) := by decide +kernel
theorem dX12_blind_87 : decode cX12_blind 87 = .ok (.iconst 1, 1) := by decide +kernel
theorem dX12_blind_88 : decode cX12_blind 88 = .ok (.goto 4, 3) := by decide +kernel
theorem dX12_blind_91 : decode cX12_blind 91 = .ok (.iconst 0, 1) := by decide +kernel
theorem dX12_blind_92 : decode cX12_blind 92 = .ok (.ireturn, 1) := by decide +kernel
theorem dX12_blind_93 : decode cX12_blind 93 = .ok (.aload_n 0, 1) := by decide +kernel
theorem dX12_blind_94 : decode cX12_blind 94 = .ok (.getfield 159, 3) := by decide +kernel
theorem dX12_blind_97 : decode cX12_blind 97 = .ok (.iload_n 1, 1) := by decide +kernel
theorem dX12_blind_98 : decode cX12_blind 98 = .ok (.iaload, 1) := by decide +kernel
theorem dX12_blind_99 : decode cX12_blind 99 = .ok (.ireturn, 1) := by decide +kernel
theorem dX12_blind_100 : decode cX12_blind 100 = .ok (.aload_n 0, 1) := by decide +kernel
theorem dX12_blind_101 : decode cX12_blind 101 = .ok (.iload_n 1, 1) := by decide +kernel
theorem dX12_blind_102 : decode cX12_blind 102 = .ok (.invokevirtual 518, 3) := by decide +kernel
theorem dX12_blind_105 : decode cX12_blind 105 = .ok (.ireturn, 1) := by decide +kernel
theorem dX12_blind_106 : decode cX12_blind 106 = .ok (.aload_n 0, 1) := by decide +kernel
theorem dX12_blind_107 : decode cX12_blind 107 = .ok (.iconst 0, 1) := by decide +kernel
theorem dX12_blind_108 : decode cX12_blind 108 = .ok (.iload_n 1, 1) := by decide +kernel
theorem dX12_blind_109 : decode cX12_blind 109 = .ok (.invokevirtual 473, 3) := by decide +kernel
theorem dX12_blind_112 : decode cX12_blind 112 = .ok (.ifCond .eq 7, 3) := by decide +kernel
theorem dX12_blind_115 : decode cX12_blind 115 = .ok (.iconst 1, 1) := by decide +kernel
theorem dX12_blind_116 : decode cX12_blind 116 = .ok (.goto 4, 3) := by decide +kernel
theorem dX12_blind_119 : decode cX12_blind 119 = .ok (.iconst 0, 1) := by decide +kernel
theorem dX12_blind_120 : decode cX12_blind 120 = .ok (.ireturn, 1) := by decide +kernel
theorem dX12_blind_121 : decode cX12_blind 121 = .ok (.iconst (-1), 1) := by decide +kernel
theorem dX12_blind_122 : decode cX12_blind 122 = .ok (.ireturn, 1) := by decide +kernel
theorem dX12_colour_0 : decode cX12_colour 0 = .ok (.aload_n 0, 1) := by decide +kernel
theorem dX12_colour_1 : decode cX12_colour 1 = .ok (.iload_n 1, 1) := by decide +kernel
theorem dX12_colour_2 : decode cX12_colour 2 = .ok (.invokevirtual 510, 3) := by decide +kernel
theorem dX12_colour_5 : decode cX12_colour 5 = .ok (.ifCond .ne 5, 3) := by decide +kernel
theorem dX12_colour_8 : decode cX12_colour 8 = .ok (.iconst (-1), 1) := by decide +kernel
theorem dX12_colour_9 : decode cX12_colour 9 = .ok (.ireturn, 1) := by decide +kernel
theorem dX12_colour_10 : decode cX12_colour 10 = .ok (.iload_n 2, 1) := by decide +kernel
theorem dX12_colour_11 : decode cX12_colour 11 = .ok (.tableswitch 74 0 4 #[33, 33, 33, 52, 67], 33) := by decide +kernel
theorem dX12_colour_44 : decode cX12_colour 44 = .ok (.aload_n 0, 1) := by decide +kernel
theorem dX12_colour_45 : decode cX12_colour 45 = .ok (.getfield 66, 3) := by decide +kernel
theorem dX12_colour_48 : decode cX12_colour 48 = .ok (.bipush 18, 2) := by decide +kernel
theorem dX12_colour_50 : decode cX12_colour 50 = .ok (.aload_n 0, 1) := by decide +kernel
theorem dX12_colour_51 : decode cX12_colour 51 = .ok (.getfield 51, 3) := by decide +kernel
theorem dX12_colour_54 : decode cX12_colour 54 = .ok (.imul, 1) := by decide +kernel
theorem dX12_colour_55 : decode cX12_colour 55 = .ok (.iconst 3, 1) := by decide +kernel
theorem dX12_colour_56 : decode cX12_colour 56 = .ok (.iload_n 1, 1) := by decide +kernel
theorem dX12_colour_57 : decode cX12_colour 57 = .ok (.imul, 1) := by decide +kernel
theorem dX12_colour_58 : decode cX12_colour 58 = .ok (.iadd, 1) := by decide +kernel
theorem dX12_colour_59 : decode cX12_colour 59 = .ok (.iload_n 2, 1) := by decide +kernel
theorem dX12_colour_60 : decode cX12_colour 60 = .ok (.iadd, 1) := by decide +kernel
theorem dX12_colour_61 : decode cX12_colour 61 = .ok (.iaload, 1) := by decide +kernel
theorem dX12_colour_62 : decode cX12_colour 62 = .ok (.ireturn, 1) := by decide +kernel
theorem dX12_colour_63 : decode cX12_colour 63 = .ok (.aload_n 0, 1) := by decide +kernel
theorem dX12_colour_64 : decode cX12_colour 64 = .ok (.getfield 69, 3) := by decide +kernel
theorem dX12_colour_67 : decode cX12_colour 67 = .ok (.bipush 6, 2) := by decide +kernel
theorem dX12_colour_69 : decode cX12_colour 69 = .ok (.aload_n 0, 1) := by decide +kernel
theorem dX12_colour_70 : decode cX12_colour 70 = .ok (.getfield 51, 3) := by decide +kernel
theorem dX12_colour_73 : decode cX12_colour 73 = .ok (.imul, 1) := by decide +kernel
theorem dX12_colour_74 : decode cX12_colour 74 = .ok (.iload_n 1, 1) := by decide +kernel
theorem dX12_colour_75 : decode cX12_colour 75 = .ok (.iadd, 1) := by decide +kernel
theorem dX12_colour_76 : decode cX12_colour 76 = .ok (.iaload, 1) := by decide +kernel
theorem dX12_colour_77 : decode cX12_colour 77 = .ok (.ireturn, 1) := by decide +kernel
theorem dX12_colour_78 : decode cX12_colour 78 = .ok (.aload_n 0, 1) := by decide +kernel
theorem dX12_colour_79 : decode cX12_colour 79 = .ok (.iconst 0, 1) := by decide +kernel
theorem dX12_colour_80 : decode cX12_colour 80 = .ok (.iload_n 1, 1) := by decide +kernel
theorem dX12_colour_81 : decode cX12_colour 81 = .ok (.invokevirtual 456, 3) := by decide +kernel
theorem dX12_colour_84 : decode cX12_colour 84 = .ok (.ireturn, 1) := by decide +kernel
theorem dX12_colour_85 : decode cX12_colour 85 = .ok (.iconst (-1), 1) := by decide +kernel
theorem dX12_colour_86 : decode cX12_colour 86 = .ok (.ireturn, 1) := by decide +kernel
theorem dX12_thing_0 : decode cX12_thing 0 = .ok (.aload_n 0, 1) := by decide +kernel
theorem dX12_thing_1 : decode cX12_thing 1 = .ok (.iload_n 1, 1) := by decide +kernel
theorem dX12_thing_2 : decode cX12_thing 2 = .ok (.invokevirtual 513, 3) := by decide +kernel
theorem dX12_thing_5 : decode cX12_thing 5 = .ok (.ifCond .ne 5, 3) := by decide +kernel
theorem dX12_thing_8 : decode cX12_thing 8 = .ok (.iconst (-1), 1) := by decide +kernel
theorem dX12_thing_9 : decode cX12_thing 9 = .ok (.ireturn, 1) := by decide +kernel
theorem dX12_thing_10 : decode cX12_thing 10 = .ok (.iload_n 2, 1) := by decide +kernel
theorem dX12_thing_11 : decode cX12_thing 11 = .ok (.tableswitch 68 0 4 #[33, 33, 33, 52, 59], 33) := by decide +kernel
theorem dX12_thing_44 : decode cX12_thing 44 = .ok (.aload_n 0, 1) := by decide +kernel
theorem dX12_thing_45 : decode cX12_thing 45 = .ok (.getfield 75, 3) := by decide +kernel
theorem dX12_thing_48 : decode cX12_thing 48 = .ok (.bipush 18, 2) := by decide +kernel
theorem dX12_thing_50 : decode cX12_thing 50 = .ok (.aload_n 0, 1) := by decide +kernel
theorem dX12_thing_51 : decode cX12_thing 51 = .ok (.getfield 51, 3) := by decide +kernel
theorem dX12_thing_54 : decode cX12_thing 54 = .ok (.imul, 1) := by decide +kernel
theorem dX12_thing_55 : decode cX12_thing 55 = .ok (.iconst 3, 1) := by decide +kernel
theorem dX12_thing_56 : decode cX12_thing 56 = .ok (.iload_n 1, 1) := by decide +kernel
theorem dX12_thing_57 : decode cX12_thing 57 = .ok (.imul, 1) := by decide +kernel
theorem dX12_thing_58 : decode cX12_thing 58 = .ok (.iadd, 1) := by decide +kernel
theorem dX12_thing_59 : decode cX12_thing 59 = .ok (.iload_n 2, 1) := by decide +kernel
theorem dX12_thing_60 : decode cX12_thing 60 = .ok (.iadd, 1) := by decide +kernel
theorem dX12_thing_61 : decode cX12_thing 61 = .ok (.iaload, 1) := by decide +kernel
theorem dX12_thing_62 : decode cX12_thing 62 = .ok (.ireturn, 1) := by decide +kernel
theorem dX12_thing_63 : decode cX12_thing 63 = .ok (.aload_n 0, 1) := by decide +kernel
theorem dX12_thing_64 : decode cX12_thing 64 = .ok (.getfield 162, 3) := by decide +kernel
theorem dX12_thing_67 : decode cX12_thing 67 = .ok (.iload_n 1, 1) := by decide +kernel
theorem dX12_thing_68 : decode cX12_thing 68 = .ok (.iaload, 1) := by decide +kernel
theorem dX12_thing_69 : decode cX12_thing 69 = .ok (.ireturn, 1) := by decide +kernel
theorem dX12_thing_70 : decode cX12_thing 70 = .ok (.aload_n 0, 1) := by decide +kernel
theorem dX12_thing_71 : decode cX12_thing 71 = .ok (.iload_n 1, 1) := by decide +kernel
theorem dX12_thing_72 : decode cX12_thing 72 = .ok (.invokevirtual 501, 3) := by decide +kernel
theorem dX12_thing_75 : decode cX12_thing 75 = .ok (.invokestatic 521, 3) := by decide +kernel
theorem dX12_thing_78 : decode cX12_thing 78 = .ok (.ireturn, 1) := by decide +kernel
theorem dX12_thing_79 : decode cX12_thing 79 = .ok (.iconst (-1), 1) := by decide +kernel
theorem dX12_thing_80 : decode cX12_thing 80 = .ok (.ireturn, 1) := by decide +kernel
theorem dX12_score_0 : decode cX12_score 0 = .ok (.aload_n 0, 1) := by decide +kernel
theorem dX12_score_1 : decode cX12_score 1 = .ok (.iload_n 1, 1) := by decide +kernel
theorem dX12_score_2 : decode cX12_score 2 = .ok (.invokevirtual 507, 3) := by decide +kernel
theorem dX12_score_5 : decode cX12_score 5 = .ok (.ifCond .eq 31, 3) := by decide +kernel
theorem dX12_score_8 : decode cX12_score 8 = .ok (.aload_n 0, 1) := by decide +kernel
theorem dX12_score_9 : decode cX12_score 9 = .ok (.iload_n 2, 1) := by decide +kernel
theorem dX12_score_10 : decode cX12_score 10 = .ok (.invokevirtual 513, 3) := by decide +kernel
theorem dX12_score_13 : decode cX12_score 13 = .ok (.ifCond .eq 23, 3) := by decide +kernel
theorem dX12_score_16 : decode cX12_score 16 = .ok (.aload_n 0, 1) := by decide +kernel
theorem dX12_score_17 : decode cX12_score 17 = .ok (.iload_n 3, 1) := by decide +kernel
theorem dX12_score_18 : decode cX12_score 18 = .ok (.invokevirtual 510, 3) := by decide +kernel
theorem dX12_score_21 : decode cX12_score 21 = .ok (.ifCond .eq 15, 3) := by decide +kernel
theorem dX12_score_24 : decode cX12_score 24 = .ok (.aload_n 0, 1) := by decide +kernel
theorem dX12_score_25 : decode cX12_score 25 = .ok (.iconst 0, 1) := by decide +kernel
theorem dX12_score_26 : decode cX12_score 26 = .ok (.iload_n 1, 1) := by decide +kernel
theorem dX12_score_27 : decode cX12_score 27 = .ok (.iload_n 2, 1) := by decide +kernel
theorem dX12_score_28 : decode cX12_score 28 = .ok (.iload_n 3, 1) := by decide +kernel
theorem dX12_score_29 : decode cX12_score 29 = .ok (.iconst 0, 1) := by decide +kernel
theorem dX12_score_30 : decode cX12_score 30 = .ok (.invokevirtual 463, 3) := by decide +kernel
theorem dX12_score_33 : decode cX12_score 33 = .ok (.goto 6, 3) := by decide +kernel
theorem dX12_score_36 : decode cX12_score 36 = .ok (.ldc2_w 524, 3) := by decide +kernel
theorem dX12_score_39 : decode cX12_score 39 = .ok (.lreturn, 1) := by decide +kernel
theorem dX12_word_0 : decode cX12_word 0 = .ok (.aload_n 0, 1) := by decide +kernel
theorem dX12_word_1 : decode cX12_word 1 = .ok (.iload_n 1, 1) := by decide +kernel
theorem dX12_word_2 : decode cX12_word 2 = .ok (.invokevirtual 507, 3) := by decide +kernel
theorem dX12_word_5 : decode cX12_word 5 = .ok (.ifCond .eq 11, 3) := by decide +kernel
theorem dX12_word_8 : decode cX12_word 8 = .ok (.aload_n 0, 1) := by decide +kernel
theorem dX12_word_9 : decode cX12_word 9 = .ok (.iload_n 2, 1) := by decide +kernel
theorem dX12_word_10 : decode cX12_word 10 = .ok (.invokevirtual 513, 3) := by decide +kernel
theorem dX12_word_13 : decode cX12_word 13 = .ok (.ifCond .ne 5, 3) := by decide +kernel
theorem dX12_word_16 : decode cX12_word 16 = .ok (.iconst (-1), 1) := by decide +kernel
theorem dX12_word_17 : decode cX12_word 17 = .ok (.ireturn, 1) := by decide +kernel
theorem dX12_word_18 : decode cX12_word 18 = .ok (.aload_n 0, 1) := by decide +kernel
theorem dX12_word_19 : decode cX12_word 19 = .ok (.invokevirtual 467, 3) := by decide +kernel
theorem dX12_word_22 : decode cX12_word 22 = .ok (.aload_n 0, 1) := by decide +kernel
theorem dX12_word_23 : decode cX12_word 23 = .ok (.iconst 0, 1) := by decide +kernel
theorem dX12_word_24 : decode cX12_word 24 = .ok (.iload_n 1, 1) := by decide +kernel
theorem dX12_word_25 : decode cX12_word 25 = .ok (.iload_n 2, 1) := by decide +kernel
theorem dX12_word_26 : decode cX12_word 26 = .ok (.invokevirtual 470, 3) := by decide +kernel
theorem dX12_word_29 : decode cX12_word 29 = .ok (.ireturn, 1) := by decide +kernel
theorem dX12_choice_0 : decode cX12_choice 0 = .ok (.aload_n 0, 1) := by decide +kernel
theorem dX12_choice_1 : decode cX12_choice 1 = .ok (.iload_n 1, 1) := by decide +kernel
theorem dX12_choice_2 : decode cX12_choice 2 = .ok (.invokevirtual 513, 3) := by decide +kernel
theorem dX12_choice_5 : decode cX12_choice 5 = .ok (.ifCond .eq 12, 3) := by decide +kernel
theorem dX12_choice_8 : decode cX12_choice 8 = .ok (.iload_n 2, 1) := by decide +kernel
theorem dX12_choice_9 : decode cX12_choice 9 = .ok (.iconst 0, 1) := by decide +kernel
theorem dX12_choice_10 : decode cX12_choice 10 = .ok (.iconst 1, 1) := by decide +kernel
theorem dX12_choice_11 : decode cX12_choice 11 = .ok (.invokestatic 309, 3) := by decide +kernel
theorem dX12_choice_14 : decode cX12_choice 14 = .ok (.ifCond .ne 5, 3) := by decide +kernel
theorem dX12_choice_17 : decode cX12_choice 17 = .ok (.iconst (-1), 1) := by decide +kernel
theorem dX12_choice_18 : decode cX12_choice 18 = .ok (.ireturn, 1) := by decide +kernel
theorem dX12_choice_19 : decode cX12_choice 19 = .ok (.aload_n 0, 1) := by decide +kernel
theorem dX12_choice_20 : decode cX12_choice 20 = .ok (.iconst 0, 1) := by decide +kernel
theorem dX12_choice_21 : decode cX12_choice 21 = .ok (.iload_n 1, 1) := by decide +kernel
theorem dX12_choice_22 : decode cX12_choice 22 = .ok (.aload_n 0, 1) := by decide +kernel
theorem dX12_choice_23 : decode cX12_choice 23 = .ok (.invokevirtual 487, 3) := by decide +kernel
theorem dX12_choice_26 : decode cX12_choice 26 = .ok (.invokevirtual 491, 3) := by decide +kernel
theorem dX12_choice_29 : decode cX12_choice 29 = .ok (.istore_n 3, 1) := by decide +kernel
theorem dX12_choice_30 : decode cX12_choice 30 = .ok (.iload_n 3, 1) := by decide +kernel
theorem dX12_choice_31 : decode cX12_choice 31 = .ok (.iconst (-1), 1) := by decide +kernel
theorem dX12_choice_32 : decode cX12_choice 32 = .ok (.if_icmp .eq 7, 3) := by decide +kernel
theorem dX12_choice_35 : decode cX12_choice 35 = .ok (.iload_n 2, 1) := by decide +kernel
theorem dX12_choice_36 : decode cX12_choice 36 = .ok (.ifCond .ne 7, 3) := by decide +kernel
theorem dX12_choice_39 : decode cX12_choice 39 = .ok (.iload_n 3, 1) := by decide +kernel
theorem dX12_choice_40 : decode cX12_choice 40 = .ok (.goto 9, 3) := by decide +kernel
theorem dX12_choice_43 : decode cX12_choice 43 = .ok (.aload_n 0, 1) := by decide +kernel
theorem dX12_choice_44 : decode cX12_choice 44 = .ok (.getfield 189, 3) := by decide +kernel
theorem dX12_choice_47 : decode cX12_choice 47 = .ok (.iload_n 3, 1) := by decide +kernel
theorem dX12_choice_48 : decode cX12_choice 48 = .ok (.iaload, 1) := by decide +kernel
theorem dX12_choice_49 : decode cX12_choice 49 = .ok (.ireturn, 1) := by decide +kernel
theorem dX12_isAhead_0 : decode cX12_isAhead 0 = .ok (.iload_n 1, 1) := by decide +kernel
theorem dX12_isAhead_1 : decode cX12_isAhead 1 = .ok (.iload_n 2, 1) := by decide +kernel
theorem dX12_isAhead_2 : decode cX12_isAhead 2 = .ok (.iload_n 3, 1) := by decide +kernel
theorem dX12_isAhead_3 : decode cX12_isAhead 3 = .ok (.invokestatic 309, 3) := by decide +kernel
theorem dX12_isAhead_6 : decode cX12_isAhead 6 = .ok (.ifCond .eq 21, 3) := by decide +kernel
theorem dX12_isAhead_9 : decode cX12_isAhead 9 = .ok (.aload_n 0, 1) := by decide +kernel
theorem dX12_isAhead_10 : decode cX12_isAhead 10 = .ok (.getfield 150, 3) := by decide +kernel
theorem dX12_isAhead_13 : decode cX12_isAhead 13 = .ok (.iconst 0, 1) := by decide +kernel
theorem dX12_isAhead_14 : decode cX12_isAhead 14 = .ok (.iaload, 1) := by decide +kernel
theorem dX12_isAhead_15 : decode cX12_isAhead 15 = .ok (.sipush 999, 3) := by decide +kernel
theorem dX12_isAhead_18 : decode cX12_isAhead 18 = .ok (.iload_n 1, 1) := by decide +kernel
theorem dX12_isAhead_19 : decode cX12_isAhead 19 = .ok (.isub, 1) := by decide +kernel
theorem dX12_isAhead_20 : decode cX12_isAhead 20 = .ok (.if_icmp .gt 7, 3) := by decide +kernel
theorem dX12_isAhead_23 : decode cX12_isAhead 23 = .ok (.iconst 1, 1) := by decide +kernel
theorem dX12_isAhead_24 : decode cX12_isAhead 24 = .ok (.goto 4, 3) := by decide +kernel
theorem dX12_isAhead_27 : decode cX12_isAhead 27 = .ok (.iconst 0, 1) := by decide +kernel
theorem dX12_isAhead_28 : decode cX12_isAhead 28 = .ok (.ireturn, 1) := by decide +kernel
theorem dX12_runsOn_0 : decode cX12_runsOn 0 = .ok (.iconst 0, 1) := by decide +kernel
theorem dX12_runsOn_1 : decode cX12_runsOn 1 = .ok (.istore_n 2, 1) := by decide +kernel
theorem dX12_runsOn_2 : decode cX12_runsOn 2 = .ok (.iload_n 2, 1) := by decide +kernel
theorem dX12_runsOn_3 : decode cX12_runsOn 3 = .ok (.iload_n 1, 1) := by decide +kernel
theorem dX12_runsOn_4 : decode cX12_runsOn 4 = .ok (.if_icmp .ge 16, 3) := by decide +kernel
theorem dX12_runsOn_7 : decode cX12_runsOn 7 = .ok (.aload_n 0, 1) := by decide +kernel
theorem dX12_runsOn_8 : decode cX12_runsOn 8 = .ok (.iconst 1, 1) := by decide +kernel
theorem dX12_runsOn_9 : decode cX12_runsOn 9 = .ok (.iconst (-1), 1) := by decide +kernel
theorem dX12_runsOn_10 : decode cX12_runsOn 10 = .ok (.invokevirtual 526, 3) := by decide +kernel
theorem dX12_runsOn_13 : decode cX12_runsOn 13 = .ok (.pop, 1) := by decide +kernel
theorem dX12_runsOn_14 : decode cX12_runsOn 14 = .ok (.iinc 2 1, 3) := by decide +kernel
theorem dX12_runsOn_17 : decode cX12_runsOn 17 = .ok (.goto (-15), 3) := by decide +kernel
theorem dX12_runsOn_20 : decode cX12_runsOn 20 = .ok (.return_, 1) := by decide +kernel
theorem dX12_later_0 : decode cX12_later 0 = .ok (.aload_n 0, 1) := by decide +kernel
theorem dX12_later_1 : decode cX12_later 1 = .ok (.iload_n 1, 1) := by decide +kernel
theorem dX12_later_2 : decode cX12_later 2 = .ok (.invokevirtual 513, 3) := by decide +kernel
theorem dX12_later_5 : decode cX12_later 5 = .ok (.ifCond .eq 14, 3) := by decide +kernel
theorem dX12_later_8 : decode cX12_later 8 = .ok (.aload_n 0, 1) := by decide +kernel
theorem dX12_later_9 : decode cX12_later 9 = .ok (.iload_n 2, 1) := by decide +kernel
theorem dX12_later_10 : decode cX12_later 10 = .ok (.iconst 0, 1) := by decide +kernel
theorem dX12_later_11 : decode cX12_later 11 = .ok (.bipush 40, 2) := by decide +kernel
theorem dX12_later_13 : decode cX12_later 13 = .ok (.invokevirtual 529, 3) := by decide +kernel
theorem dX12_later_16 : decode cX12_later 16 = .ok (.ifCond .ne 5, 3) := by decide +kernel
theorem dX12_later_19 : decode cX12_later 19 = .ok (.iconst (-1), 1) := by decide +kernel
theorem dX12_later_20 : decode cX12_later 20 = .ok (.ireturn, 1) := by decide +kernel
theorem dX12_later_21 : decode cX12_later 21 = .ok (.aload_n 0, 1) := by decide +kernel
theorem dX12_later_22 : decode cX12_later 22 = .ok (.iconst 1, 1) := by decide +kernel
theorem dX12_later_23 : decode cX12_later 23 = .ok (.iconst 0, 1) := by decide +kernel
theorem dX12_later_24 : decode cX12_later 24 = .ok (.invokevirtual 424, 3) := by decide +kernel
theorem dX12_later_27 : decode cX12_later 27 = .ok (.aload_n 0, 1) := by decide +kernel
theorem dX12_later_28 : decode cX12_later 28 = .ok (.iload_n 2, 1) := by decide +kernel
theorem dX12_later_29 : decode cX12_later 29 = .ok (.invokevirtual 532, 3) := by decide +kernel
theorem dX12_later_32 : decode cX12_later 32 = .ok (.aload_n 0, 1) := by decide +kernel
theorem dX12_later_33 : decode cX12_later 33 = .ok (.getfield 162, 3) := by decide +kernel
theorem dX12_later_36 : decode cX12_later 36 = .ok (.bipush 6, 2) := by decide +kernel
theorem dX12_later_38 : decode cX12_later 38 = .ok (.iload_n 1, 1) := by decide +kernel
theorem dX12_later_39 : decode cX12_later 39 = .ok (.iadd, 1) := by decide +kernel
theorem dX12_later_40 : decode cX12_later 40 = .ok (.iaload, 1) := by decide +kernel
theorem dX12_later_41 : decode cX12_later 41 = .ok (.ireturn, 1) := by decide +kernel
theorem dX12_mood_0 : decode cX12_mood 0 = .ok (.aload_n 0, 1) := by decide +kernel
theorem dX12_mood_1 : decode cX12_mood 1 = .ok (.iload_n 1, 1) := by decide +kernel
theorem dX12_mood_2 : decode cX12_mood 2 = .ok (.invokevirtual 507, 3) := by decide +kernel
theorem dX12_mood_5 : decode cX12_mood 5 = .ok (.ifCond .eq 14, 3) := by decide +kernel
theorem dX12_mood_8 : decode cX12_mood 8 = .ok (.aload_n 0, 1) := by decide +kernel
theorem dX12_mood_9 : decode cX12_mood 9 = .ok (.iload_n 2, 1) := by decide +kernel
theorem dX12_mood_10 : decode cX12_mood 10 = .ok (.iconst 0, 1) := by decide +kernel
theorem dX12_mood_11 : decode cX12_mood 11 = .ok (.bipush 40, 2) := by decide +kernel
theorem dX12_mood_13 : decode cX12_mood 13 = .ok (.invokevirtual 529, 3) := by decide +kernel
theorem dX12_mood_16 : decode cX12_mood 16 = .ok (.ifCond .ne 5, 3) := by decide +kernel
theorem dX12_mood_19 : decode cX12_mood 19 = .ok (.iconst (-1), 1) := by decide +kernel
theorem dX12_mood_20 : decode cX12_mood 20 = .ok (.ireturn, 1) := by decide +kernel
theorem dX12_mood_21 : decode cX12_mood 21 = .ok (.aload_n 0, 1) := by decide +kernel
theorem dX12_mood_22 : decode cX12_mood 22 = .ok (.iconst 1, 1) := by decide +kernel
theorem dX12_mood_23 : decode cX12_mood 23 = .ok (.iconst 0, 1) := by decide +kernel
theorem dX12_mood_24 : decode cX12_mood 24 = .ok (.invokevirtual 424, 3) := by decide +kernel
theorem dX12_mood_27 : decode cX12_mood 27 = .ok (.aload_n 0, 1) := by decide +kernel
theorem dX12_mood_28 : decode cX12_mood 28 = .ok (.iload_n 2, 1) := by decide +kernel
theorem dX12_mood_29 : decode cX12_mood 29 = .ok (.invokevirtual 532, 3) := by decide +kernel
theorem dX12_mood_32 : decode cX12_mood 32 = .ok (.aload_n 0, 1) := by decide +kernel
theorem dX12_mood_33 : decode cX12_mood 33 = .ok (.getfield 159, 3) := by decide +kernel
theorem dX12_mood_36 : decode cX12_mood 36 = .ok (.bipush 6, 2) := by decide +kernel
theorem dX12_mood_38 : decode cX12_mood 38 = .ok (.iload_n 1, 1) := by decide +kernel
theorem dX12_mood_39 : decode cX12_mood 39 = .ok (.iadd, 1) := by decide +kernel
theorem dX12_mood_40 : decode cX12_mood 40 = .ok (.iaload, 1) := by decide +kernel
theorem dX12_mood_41 : decode cX12_mood 41 = .ok (.ireturn, 1) := by decide +kernel
theorem dX12_purse_0 : decode cX12_purse 0 = .ok (.aload_n 0, 1) := by decide +kernel
theorem dX12_purse_1 : decode cX12_purse 1 = .ok (.iload_n 1, 1) := by decide +kernel
theorem dX12_purse_2 : decode cX12_purse 2 = .ok (.iconst 0, 1) := by decide +kernel
theorem dX12_purse_3 : decode cX12_purse 3 = .ok (.bipush 40, 2) := by decide +kernel
theorem dX12_purse_5 : decode cX12_purse 5 = .ok (.invokevirtual 529, 3) := by decide +kernel
theorem dX12_purse_8 : decode cX12_purse 8 = .ok (.ifCond .ne 5, 3) := by decide +kernel
theorem dX12_purse_11 : decode cX12_purse 11 = .ok (.iconst (-1), 1) := by decide +kernel
theorem dX12_purse_12 : decode cX12_purse 12 = .ok (.ireturn, 1) := by decide +kernel
theorem dX12_purse_13 : decode cX12_purse 13 = .ok (.aload_n 0, 1) := by decide +kernel
theorem dX12_purse_14 : decode cX12_purse 14 = .ok (.iconst 1, 1) := by decide +kernel
theorem dX12_purse_15 : decode cX12_purse 15 = .ok (.iconst 0, 1) := by decide +kernel
theorem dX12_purse_16 : decode cX12_purse 16 = .ok (.invokevirtual 424, 3) := by decide +kernel
theorem dX12_purse_19 : decode cX12_purse 19 = .ok (.aload_n 0, 1) := by decide +kernel
theorem dX12_purse_20 : decode cX12_purse 20 = .ok (.iload_n 1, 1) := by decide +kernel
theorem dX12_purse_21 : decode cX12_purse 21 = .ok (.invokevirtual 532, 3) := by decide +kernel
theorem dX12_purse_24 : decode cX12_purse 24 = .ok (.aload_n 0, 1) := by decide +kernel
theorem dX12_purse_25 : decode cX12_purse 25 = .ok (.getfield 153, 3) := by decide +kernel
theorem dX12_purse_28 : decode cX12_purse 28 = .ok (.iconst 1, 1) := by decide +kernel
theorem dX12_purse_29 : decode cX12_purse 29 = .ok (.iaload, 1) := by decide +kernel
theorem dX12_purse_30 : decode cX12_purse 30 = .ok (.ireturn, 1) := by decide +kernel
theorem dX12_rowsOf_0 : decode cX12_rowsOf 0 = .ok (.iconst 1, 1) := by decide +kernel
theorem dX12_rowsOf_1 : decode cX12_rowsOf 1 = .ok (.istore_n 1, 1) := by decide +kernel
theorem dX12_rowsOf_2 : decode cX12_rowsOf 2 = .ok (.iconst 2, 1) := by decide +kernel
theorem dX12_rowsOf_3 : decode cX12_rowsOf 3 = .ok (.istore_n 2, 1) := by decide +kernel
theorem dX12_rowsOf_4 : decode cX12_rowsOf 4 = .ok (.iload_n 2, 1) := by decide +kernel
theorem dX12_rowsOf_5 : decode cX12_rowsOf 5 = .ok (.aload_n 0, 1) := by decide +kernel
theorem dX12_rowsOf_6 : decode cX12_rowsOf 6 = .ok (.getfield 54, 3) := by decide +kernel
theorem dX12_rowsOf_9 : decode cX12_rowsOf 9 = .ok (.aload_n 0, 1) := by decide +kernel
theorem dX12_rowsOf_10 : decode cX12_rowsOf 10 = .ok (.getfield 51, 3) := by decide +kernel
theorem dX12_rowsOf_13 : decode cX12_rowsOf 13 = .ok (.iaload, 1) := by decide +kernel
theorem dX12_rowsOf_14 : decode cX12_rowsOf 14 = .ok (.if_icmp .gt 13, 3) := by decide +kernel
theorem dX12_rowsOf_17 : decode cX12_rowsOf 17 = .ok (.iload_n 1, 1) := by decide +kernel
theorem dX12_rowsOf_18 : decode cX12_rowsOf 18 = .ok (.iload_n 2, 1) := by decide +kernel
theorem dX12_rowsOf_19 : decode cX12_rowsOf 19 = .ok (.imul, 1) := by decide +kernel
theorem dX12_rowsOf_20 : decode cX12_rowsOf 20 = .ok (.istore_n 1, 1) := by decide +kernel
theorem dX12_rowsOf_21 : decode cX12_rowsOf 21 = .ok (.iinc 2 1, 3) := by decide +kernel
theorem dX12_rowsOf_24 : decode cX12_rowsOf 24 = .ok (.goto (-20), 3) := by decide +kernel
theorem dX12_rowsOf_27 : decode cX12_rowsOf 27 = .ok (.iload_n 1, 1) := by decide +kernel
theorem dX12_rowsOf_28 : decode cX12_rowsOf 28 = .ok (.ireturn, 1) := by decide +kernel
theorem dX12_laysOrder_0 : decode cX12_laysOrder 0 = .ok (.iload_n 1, 1) := by decide +kernel
theorem dX12_laysOrder_1 : decode cX12_laysOrder 1 = .ok (.istore_n 2, 1) := by decide +kernel
theorem dX12_laysOrder_2 : decode cX12_laysOrder 2 = .ok (.iconst 0, 1) := by decide +kernel
theorem dX12_laysOrder_3 : decode cX12_laysOrder 3 = .ok (.istore_n 3, 1) := by decide +kernel
theorem dX12_laysOrder_4 : decode cX12_laysOrder 4 = .ok (.aload_n 0, 1) := by decide +kernel
theorem dX12_laysOrder_5 : decode cX12_laysOrder 5 = .ok (.getfield 54, 3) := by decide +kernel
theorem dX12_laysOrder_8 : decode cX12_laysOrder 8 = .ok (.aload_n 0, 1) := by decide +kernel
theorem dX12_laysOrder_9 : decode cX12_laysOrder 9 = .ok (.getfield 51, 3) := by decide +kernel
theorem dX12_laysOrder_12 : decode cX12_laysOrder 12 = .ok (.iaload, 1) := by decide +kernel
theorem dX12_laysOrder_13 : decode cX12_laysOrder 13 = .ok (.istore 4, 2) := by decide +kernel
theorem dX12_laysOrder_15 : decode cX12_laysOrder 15 = .ok (.aload_n 0, 1) := by decide +kernel
theorem dX12_laysOrder_16 : decode cX12_laysOrder 16 = .ok (.invokevirtual 535, 3) := by decide +kernel
theorem dX12_laysOrder_19 : decode cX12_laysOrder 19 = .ok (.istore 5, 2) := by decide +kernel
theorem dX12_laysOrder_21 : decode cX12_laysOrder 21 = .ok (.iconst 0, 1) := by decide +kernel
theorem dX12_laysOrder_22 : decode cX12_laysOrder 22 = .ok (.istore 6, 2) := by decide +kernel
theorem dX12_laysOrder_24 : decode cX12_laysOrder 24 = .ok (.iload 6, 2) := by decide +kernel
theorem dX12_laysOrder_26 : decode cX12_laysOrder 26 = .ok (.iload 4, 2) := by decide +kernel
theorem dX12_laysOrder_28 : decode cX12_laysOrder 28 = .ok (.if_icmp .ge 85, 3) := by decide +kernel
theorem dX12_laysOrder_31 : decode cX12_laysOrder 31 = .ok (.iload 5, 2) := by decide +kernel
theorem dX12_laysOrder_33 : decode cX12_laysOrder 33 = .ok (.iload 4, 2) := by decide +kernel
theorem dX12_laysOrder_35 : decode cX12_laysOrder 35 = .ok (.iload 6, 2) := by decide +kernel
theorem dX12_laysOrder_37 : decode cX12_laysOrder 37 = .ok (.isub, 1) := by decide +kernel
theorem dX12_laysOrder_38 : decode cX12_laysOrder 38 = .ok (.idiv, 1) := by decide +kernel
theorem dX12_laysOrder_39 : decode cX12_laysOrder 39 = .ok (.istore 5, 2) := by decide +kernel
theorem dX12_laysOrder_41 : decode cX12_laysOrder 41 = .ok (.iload_n 2, 1) := by decide +kernel
theorem dX12_laysOrder_42 : decode cX12_laysOrder 42 = .ok (.iload 5, 2) := by decide +kernel
theorem dX12_laysOrder_44 : decode cX12_laysOrder 44 = .ok (.idiv, 1) := by decide +kernel
theorem dX12_laysOrder_45 : decode cX12_laysOrder 45 = .ok (.istore 7, 2) := by decide +kernel
theorem dX12_laysOrder_47 : decode cX12_laysOrder 47 = .ok (.iload_n 2, 1) := by decide +kernel
theorem dX12_laysOrder_48 : decode cX12_laysOrder 48 = .ok (.iload 5, 2) := by decide +kernel
theorem dX12_laysOrder_50 : decode cX12_laysOrder 50 = .ok (.irem, 1) := by decide +kernel
theorem dX12_laysOrder_51 : decode cX12_laysOrder 51 = .ok (.istore_n 2, 1) := by decide +kernel
theorem dX12_laysOrder_52 : decode cX12_laysOrder 52 = .ok (.iconst 0, 1) := by decide +kernel
theorem dX12_laysOrder_53 : decode cX12_laysOrder 53 = .ok (.istore 8, 2) := by decide +kernel
theorem dX12_laysOrder_55 : decode cX12_laysOrder 55 = .ok (.iload 8, 2) := by decide +kernel
theorem dX12_laysOrder_57 : decode cX12_laysOrder 57 = .ok (.iload 4, 2) := by decide +kernel
theorem dX12_laysOrder_59 : decode cX12_laysOrder 59 = .ok (.if_icmp .ge 48, 3) := by decide +kernel
theorem dX12_laysOrder_62 : decode cX12_laysOrder 62 = .ok (.iload_n 3, 1) := by decide +kernel
theorem dX12_laysOrder_63 : decode cX12_laysOrder 63 = .ok (.iload 8, 2) := by decide +kernel
theorem dX12_laysOrder_65 : decode cX12_laysOrder 65 = .ok (.invokestatic 351, 3) := by decide +kernel
theorem dX12_laysOrder_68 : decode cX12_laysOrder 68 = .ok (.ifCond .eq 6, 3) := by decide +kernel
theorem dX12_laysOrder_71 : decode cX12_laysOrder 71 = .ok (.goto 30, 3) := by decide +kernel
theorem dX12_laysOrder_74 : decode cX12_laysOrder 74 = .ok (.iload 7, 2) := by decide +kernel
theorem dX12_laysOrder_76 : decode cX12_laysOrder 76 = .ok (.ifCond .ne 22, 3) := by decide +kernel
theorem dX12_laysOrder_79 : decode cX12_laysOrder 79 = .ok (.aload_n 0, 1) := by decide +kernel
theorem dX12_laysOrder_80 : decode cX12_laysOrder 80 = .ok (.getfield 195, 3) := by decide +kernel
theorem dX12_laysOrder_83 : decode cX12_laysOrder 83 = .ok (.iload 6, 2) := by decide +kernel
theorem dX12_laysOrder_85 : decode cX12_laysOrder 85 = .ok (.iload 8, 2) := by decide +kernel
theorem dX12_laysOrder_87 : decode cX12_laysOrder 87 = .ok (.iastore, 1) := by decide +kernel
theorem dX12_laysOrder_88 : decode cX12_laysOrder 88 = .ok (.iload_n 3, 1) := by decide +kernel
theorem dX12_laysOrder_89 : decode cX12_laysOrder 89 = .ok (.iconst 1, 1) := by decide +kernel
theorem dX12_laysOrder_90 : decode cX12_laysOrder 90 = .ok (.iload 8, 2) := by decide +kernel
theorem dX12_laysOrder_92 : decode cX12_laysOrder 92 = .ok (.ishl, 1) := by decide +kernel
theorem dX12_laysOrder_93 : decode cX12_laysOrder 93 = .ok (.ior, 1) := by decide +kernel
theorem dX12_laysOrder_94 : decode cX12_laysOrder 94 = .ok (.istore_n 3, 1) := by decide +kernel
theorem dX12_laysOrder_95 : decode cX12_laysOrder 95 = .ok (.goto 12, 3) := by decide +kernel
theorem dX12_laysOrder_98 : decode cX12_laysOrder 98 = .ok (.iinc 7 (-1), 3) := by decide +kernel
theorem dX12_laysOrder_101 : decode cX12_laysOrder 101 = .ok (.iinc 8 1, 3) := by decide +kernel
theorem dX12_laysOrder_104 : decode cX12_laysOrder 104 = .ok (.goto (-49), 3) := by decide +kernel
theorem dX12_laysOrder_107 : decode cX12_laysOrder 107 = .ok (.iinc 6 1, 3) := by decide +kernel
theorem dX12_laysOrder_110 : decode cX12_laysOrder 110 = .ok (.goto (-86), 3) := by decide +kernel
theorem dX12_laysOrder_113 : decode cX12_laysOrder 113 = .ok (.return_, 1) := by decide +kernel
theorem dX12_order_0 : decode cX12_order 0 = .ok (.aload_n 0, 1) := by decide +kernel
theorem dX12_order_1 : decode cX12_order 1 = .ok (.iload_n 1, 1) := by decide +kernel
theorem dX12_order_2 : decode cX12_order 2 = .ok (.invokevirtual 513, 3) := by decide +kernel
theorem dX12_order_5 : decode cX12_order 5 = .ok (.ifCond .eq 30, 3) := by decide +kernel
theorem dX12_order_8 : decode cX12_order 8 = .ok (.aload_n 0, 1) := by decide +kernel
theorem dX12_order_9 : decode cX12_order 9 = .ok (.iload_n 2, 1) := by decide +kernel
theorem dX12_order_10 : decode cX12_order 10 = .ok (.invokevirtual 510, 3) := by decide +kernel
theorem dX12_order_13 : decode cX12_order 13 = .ok (.ifCond .eq 22, 3) := by decide +kernel
theorem dX12_order_16 : decode cX12_order 16 = .ok (.iload_n 3, 1) := by decide +kernel
theorem dX12_order_17 : decode cX12_order 17 = .ok (.iconst 0, 1) := by decide +kernel
theorem dX12_order_18 : decode cX12_order 18 = .ok (.aload_n 0, 1) := by decide +kernel
theorem dX12_order_19 : decode cX12_order 19 = .ok (.getfield 54, 3) := by decide +kernel
theorem dX12_order_22 : decode cX12_order 22 = .ok (.aload_n 0, 1) := by decide +kernel
theorem dX12_order_23 : decode cX12_order 23 = .ok (.getfield 51, 3) := by decide +kernel
theorem dX12_order_26 : decode cX12_order 26 = .ok (.iaload, 1) := by decide +kernel
theorem dX12_order_27 : decode cX12_order 27 = .ok (.iconst 1, 1) := by decide +kernel
theorem dX12_order_28 : decode cX12_order 28 = .ok (.isub, 1) := by decide +kernel
theorem dX12_order_29 : decode cX12_order 29 = .ok (.invokestatic 309, 3) := by decide +kernel
theorem dX12_order_32 : decode cX12_order 32 = .ok (.ifCond .ne 5, 3) := by decide +kernel
theorem dX12_order_35 : decode cX12_order 35 = .ok (.iconst (-1), 1) := by decide +kernel
theorem dX12_order_36 : decode cX12_order 36 = .ok (.ireturn, 1) := by decide +kernel
theorem dX12_order_37 : decode cX12_order 37 = .ok (.iconst 0, 1) := by decide +kernel
theorem dX12_order_38 : decode cX12_order 38 = .ok (.istore 4, 2) := by decide +kernel
theorem dX12_order_40 : decode cX12_order 40 = .ok (.iload 4, 2) := by decide +kernel
theorem dX12_order_42 : decode cX12_order 42 = .ok (.aload_n 0, 1) := by decide +kernel
theorem dX12_order_43 : decode cX12_order 43 = .ok (.invokevirtual 535, 3) := by decide +kernel
theorem dX12_order_46 : decode cX12_order 46 = .ok (.if_icmp .ge 36, 3) := by decide +kernel
theorem dX12_order_49 : decode cX12_order 49 = .ok (.aload_n 0, 1) := by decide +kernel
theorem dX12_order_50 : decode cX12_order 50 = .ok (.iload 4, 2) := by decide +kernel
theorem dX12_order_52 : decode cX12_order 52 = .ok (.invokevirtual 538, 3) := by decide +kernel
theorem dX12_order_55 : decode cX12_order 55 = .ok (.aload_n 0, 1) := by decide +kernel
theorem dX12_order_56 : decode cX12_order 56 = .ok (.iconst 0, 1) := by decide +kernel
theorem dX12_order_57 : decode cX12_order 57 = .ok (.iload_n 1, 1) := by decide +kernel
theorem dX12_order_58 : decode cX12_order 58 = .ok (.aload_n 0, 1) := by decide +kernel
theorem dX12_order_59 : decode cX12_order 59 = .ok (.invokevirtual 487, 3) := by decide +kernel
theorem dX12_order_62 : decode cX12_order 62 = .ok (.invokevirtual 479, 3) := by decide +kernel
theorem dX12_order_65 : decode cX12_order 65 = .ok (.iload_n 2, 1) := by decide +kernel
theorem dX12_order_66 : decode cX12_order 66 = .ok (.if_icmp .ne 10, 3) := by decide +kernel
theorem dX12_order_69 : decode cX12_order 69 = .ok (.aload_n 0, 1) := by decide +kernel
theorem dX12_order_70 : decode cX12_order 70 = .ok (.getfield 195, 3) := by decide +kernel
theorem dX12_order_73 : decode cX12_order 73 = .ok (.iload_n 3, 1) := by decide +kernel
theorem dX12_order_74 : decode cX12_order 74 = .ok (.iaload, 1) := by decide +kernel
theorem dX12_order_75 : decode cX12_order 75 = .ok (.ireturn, 1) := by decide +kernel
theorem dX12_order_76 : decode cX12_order 76 = .ok (.iinc 4 1, 3) := by decide +kernel
theorem dX12_order_79 : decode cX12_order 79 = .ok (.goto (-39), 3) := by decide +kernel
theorem dX12_order_82 : decode cX12_order 82 = .ok (.iconst (-1), 1) := by decide +kernel
theorem dX12_order_83 : decode cX12_order 83 = .ok (.ireturn, 1) := by decide +kernel
theorem dX12_orders_0 : decode cX12_orders 0 = .ok (.aload_n 0, 1) := by decide +kernel
theorem dX12_orders_1 : decode cX12_orders 1 = .ok (.iload_n 1, 1) := by decide +kernel
theorem dX12_orders_2 : decode cX12_orders 2 = .ok (.invokevirtual 513, 3) := by decide +kernel
theorem dX12_orders_5 : decode cX12_orders 5 = .ok (.ifCond .eq 11, 3) := by decide +kernel
theorem dX12_orders_8 : decode cX12_orders 8 = .ok (.aload_n 0, 1) := by decide +kernel
theorem dX12_orders_9 : decode cX12_orders 9 = .ok (.iload_n 2, 1) := by decide +kernel
theorem dX12_orders_10 : decode cX12_orders 10 = .ok (.invokevirtual 510, 3) := by decide +kernel
theorem dX12_orders_13 : decode cX12_orders 13 = .ok (.ifCond .ne 5, 3) := by decide +kernel
theorem dX12_orders_16 : decode cX12_orders 16 = .ok (.iconst (-1), 1) := by decide +kernel
theorem dX12_orders_17 : decode cX12_orders 17 = .ok (.ireturn, 1) := by decide +kernel
theorem dX12_orders_18 : decode cX12_orders 18 = .ok (.iconst 0, 1) := by decide +kernel
theorem dX12_orders_19 : decode cX12_orders 19 = .ok (.istore_n 3, 1) := by decide +kernel
theorem dX12_orders_20 : decode cX12_orders 20 = .ok (.iconst 0, 1) := by decide +kernel
theorem dX12_orders_21 : decode cX12_orders 21 = .ok (.istore 4, 2) := by decide +kernel
theorem dX12_orders_23 : decode cX12_orders 23 = .ok (.iload 4, 2) := by decide +kernel
theorem dX12_orders_25 : decode cX12_orders 25 = .ok (.aload_n 0, 1) := by decide +kernel
theorem dX12_orders_26 : decode cX12_orders 26 = .ok (.invokevirtual 535, 3) := by decide +kernel
theorem dX12_orders_29 : decode cX12_orders 29 = .ok (.if_icmp .ge 37, 3) := by decide +kernel
theorem dX12_orders_32 : decode cX12_orders 32 = .ok (.aload_n 0, 1) := by decide +kernel
theorem dX12_orders_33 : decode cX12_orders 33 = .ok (.iload 4, 2) := by decide +kernel
theorem dX12_orders_35 : decode cX12_orders 35 = .ok (.invokevirtual 538, 3) := by decide +kernel
theorem dX12_orders_38 : decode cX12_orders 38 = .ok (.iload_n 3, 1) := by decide +kernel
theorem dX12_orders_39 : decode cX12_orders 39 = .ok (.aload_n 0, 1) := by decide +kernel
theorem dX12_orders_40 : decode cX12_orders 40 = .ok (.iconst 0, 1) := by decide +kernel
theorem dX12_orders_41 : decode cX12_orders 41 = .ok (.iload_n 1, 1) := by decide +kernel
theorem dX12_orders_42 : decode cX12_orders 42 = .ok (.aload_n 0, 1) := by decide +kernel
theorem dX12_orders_43 : decode cX12_orders 43 = .ok (.invokevirtual 487, 3) := by decide +kernel
theorem dX12_orders_46 : decode cX12_orders 46 = .ok (.invokevirtual 479, 3) := by decide +kernel
theorem dX12_orders_49 : decode cX12_orders 49 = .ok (.iload_n 2, 1) := by decide +kernel
theorem dX12_orders_50 : decode cX12_orders 50 = .ok (.if_icmp .ne 7, 3) := by decide +kernel
theorem dX12_orders_53 : decode cX12_orders 53 = .ok (.iconst 1, 1) := by decide +kernel
theorem dX12_orders_54 : decode cX12_orders 54 = .ok (.goto 4, 3) := by decide +kernel
theorem dX12_orders_57 : decode cX12_orders 57 = .ok (.iconst 0, 1) := by decide +kernel
theorem dX12_orders_58 : decode cX12_orders 58 = .ok (.iadd, 1) := by decide +kernel
theorem dX12_orders_59 : decode cX12_orders 59 = .ok (.istore_n 3, 1) := by decide +kernel
theorem dX12_orders_60 : decode cX12_orders 60 = .ok (.iinc 4 1, 3) := by decide +kernel
theorem dX12_orders_63 : decode cX12_orders 63 = .ok (.goto (-40), 3) := by decide +kernel
theorem dX12_orders_66 : decode cX12_orders 66 = .ok (.iload_n 3, 1) := by decide +kernel
theorem dX12_orders_67 : decode cX12_orders 67 = .ok (.ireturn, 1) := by decide +kernel
theorem dX12_power_0 : decode cX12_power 0 = .ok (.aload_n 0, 1) := by decide +kernel
theorem dX12_power_1 : decode cX12_power 1 = .ok (.iload_n 1, 1) := by decide +kernel
theorem dX12_power_2 : decode cX12_power 2 = .ok (.invokevirtual 507, 3) := by decide +kernel
theorem dX12_power_5 : decode cX12_power 5 = .ok (.ifCond .eq 11, 3) := by decide +kernel
theorem dX12_power_8 : decode cX12_power 8 = .ok (.aload_n 0, 1) := by decide +kernel
theorem dX12_power_9 : decode cX12_power 9 = .ok (.iload_n 2, 1) := by decide +kernel
theorem dX12_power_10 : decode cX12_power 10 = .ok (.invokevirtual 513, 3) := by decide +kernel
theorem dX12_power_13 : decode cX12_power 13 = .ok (.ifCond .ne 5, 3) := by decide +kernel
theorem dX12_power_16 : decode cX12_power 16 = .ok (.iconst (-1), 1) := by decide +kernel
theorem dX12_power_17 : decode cX12_power 17 = .ok (.ireturn, 1) := by decide +kernel
theorem dX12_power_18 : decode cX12_power 18 = .ok (.aload_n 0, 1) := by decide +kernel
theorem dX12_power_19 : decode cX12_power 19 = .ok (.iconst 0, 1) := by decide +kernel
theorem dX12_power_20 : decode cX12_power 20 = .ok (.invokevirtual 476, 3) := by decide +kernel
theorem dX12_power_23 : decode cX12_power 23 = .ok (.iconst 0, 1) := by decide +kernel
theorem dX12_power_24 : decode cX12_power 24 = .ok (.istore_n 3, 1) := by decide +kernel
theorem dX12_power_25 : decode cX12_power 25 = .ok (.iconst 0, 1) := by decide +kernel
theorem dX12_power_26 : decode cX12_power 26 = .ok (.istore 4, 2) := by decide +kernel
theorem dX12_power_28 : decode cX12_power 28 = .ok (.iload 4, 2) := by decide +kernel
theorem dX12_power_30 : decode cX12_power 30 = .ok (.iconst 1, 1) := by decide +kernel
theorem dX12_power_31 : decode cX12_power 31 = .ok (.aload_n 0, 1) := by decide +kernel
theorem dX12_power_32 : decode cX12_power 32 = .ok (.getfield 54, 3) := by decide +kernel
theorem dX12_power_35 : decode cX12_power 35 = .ok (.aload_n 0, 1) := by decide +kernel
theorem dX12_power_36 : decode cX12_power 36 = .ok (.getfield 51, 3) := by decide +kernel
theorem dX12_power_39 : decode cX12_power 39 = .ok (.iaload, 1) := by decide +kernel
theorem dX12_power_40 : decode cX12_power 40 = .ok (.ishl, 1) := by decide +kernel
theorem dX12_power_41 : decode cX12_power 41 = .ok (.if_icmp .ge 56, 3) := by decide +kernel
theorem dX12_power_44 : decode cX12_power 44 = .ok (.iload 4, 2) := by decide +kernel
theorem dX12_power_46 : decode cX12_power 46 = .ok (.iload_n 1, 1) := by decide +kernel
theorem dX12_power_47 : decode cX12_power 47 = .ok (.invokestatic 351, 3) := by decide +kernel
theorem dX12_power_50 : decode cX12_power 50 = .ok (.ifCond .eq 6, 3) := by decide +kernel
theorem dX12_power_53 : decode cX12_power 53 = .ok (.goto 38, 3) := by decide +kernel
theorem dX12_power_56 : decode cX12_power 56 = .ok (.aload_n 0, 1) := by decide +kernel
theorem dX12_power_57 : decode cX12_power 57 = .ok (.iconst 0, 1) := by decide +kernel
theorem dX12_power_58 : decode cX12_power 58 = .ok (.iload_n 2, 1) := by decide +kernel
theorem dX12_power_59 : decode cX12_power 59 = .ok (.iload 4, 2) := by decide +kernel
theorem dX12_power_61 : decode cX12_power 61 = .ok (.invokevirtual 479, 3) := by decide +kernel
theorem dX12_power_64 : decode cX12_power 64 = .ok (.istore 5, 2) := by decide +kernel
theorem dX12_power_66 : decode cX12_power 66 = .ok (.iload_n 3, 1) := by decide +kernel
theorem dX12_power_67 : decode cX12_power 67 = .ok (.iload 5, 2) := by decide +kernel
theorem dX12_power_69 : decode cX12_power 69 = .ok (.aload_n 0, 1) := by decide +kernel
theorem dX12_power_70 : decode cX12_power 70 = .ok (.iconst 0, 1) := by decide +kernel
theorem dX12_power_71 : decode cX12_power 71 = .ok (.iload_n 2, 1) := by decide +kernel
theorem dX12_power_72 : decode cX12_power 72 = .ok (.iload 4, 2) := by decide +kernel
theorem dX12_power_74 : decode cX12_power 74 = .ok (.iconst 1, 1) := by decide +kernel
theorem dX12_power_75 : decode cX12_power 75 = .ok (.iload_n 1, 1) := by decide +kernel
theorem dX12_power_76 : decode cX12_power 76 = .ok (.ishl, 1) := by decide +kernel
theorem dX12_power_77 : decode cX12_power 77 = .ok (.ior, 1) := by decide +kernel
theorem dX12_power_78 : decode cX12_power 78 = .ok (.invokevirtual 479, 3) := by decide +kernel
theorem dX12_power_81 : decode cX12_power 81 = .ok (.if_icmp .eq 7, 3) := by decide +kernel
theorem dX12_power_84 : decode cX12_power 84 = .ok (.iconst 1, 1) := by decide +kernel
theorem dX12_power_85 : decode cX12_power 85 = .ok (.goto 4, 3) := by decide +kernel
theorem dX12_power_88 : decode cX12_power 88 = .ok (.iconst 0, 1) := by decide +kernel
theorem dX12_power_89 : decode cX12_power 89 = .ok (.iadd, 1) := by decide +kernel
theorem dX12_power_90 : decode cX12_power 90 = .ok (.istore_n 3, 1) := by decide +kernel
theorem dX12_power_91 : decode cX12_power 91 = .ok (.iinc 4 1, 3) := by decide +kernel
theorem dX12_power_94 : decode cX12_power 94 = .ok (.goto (-66), 3) := by decide +kernel
theorem dX12_power_97 : decode cX12_power 97 = .ok (.iload_n 3, 1) := by decide +kernel
theorem dX12_power_98 : decode cX12_power 98 = .ok (.ireturn, 1) := by decide +kernel
theorem dX12_isClear_0 : decode cX12_isClear 0 = .ok (.iconst 0, 1) := by decide +kernel
theorem dX12_isClear_1 : decode cX12_isClear 1 = .ok (.istore_n 1, 1) := by decide +kernel
theorem dX12_isClear_2 : decode cX12_isClear 2 = .ok (.iload_n 1, 1) := by decide +kernel
theorem dX12_isClear_3 : decode cX12_isClear 3 = .ok (.aload_n 0, 1) := by decide +kernel
theorem dX12_isClear_4 : decode cX12_isClear 4 = .ok (.getfield 72, 3) := by decide +kernel
theorem dX12_isClear_7 : decode cX12_isClear 7 = .ok (.aload_n 0, 1) := by decide +kernel
theorem dX12_isClear_8 : decode cX12_isClear 8 = .ok (.getfield 51, 3) := by decide +kernel
theorem dX12_isClear_11 : decode cX12_isClear 11 = .ok (.iaload, 1) := by decide +kernel
theorem dX12_isClear_12 : decode cX12_isClear 12 = .ok (.if_icmp .ge 71, 3) := by decide +kernel
theorem dX12_isClear_15 : decode cX12_isClear 15 = .ok (.iload_n 1, 1) := by decide +kernel
theorem dX12_isClear_16 : decode cX12_isClear 16 = .ok (.iconst 1, 1) := by decide +kernel
theorem dX12_isClear_17 : decode cX12_isClear 17 = .ok (.iadd, 1) := by decide +kernel
theorem dX12_isClear_18 : decode cX12_isClear 18 = .ok (.istore_n 2, 1) := by decide +kernel
theorem dX12_isClear_19 : decode cX12_isClear 19 = .ok (.iload_n 2, 1) := by decide +kernel
theorem dX12_isClear_20 : decode cX12_isClear 20 = .ok (.aload_n 0, 1) := by decide +kernel
theorem dX12_isClear_21 : decode cX12_isClear 21 = .ok (.getfield 72, 3) := by decide +kernel
theorem dX12_isClear_24 : decode cX12_isClear 24 = .ok (.aload_n 0, 1) := by decide +kernel
theorem dX12_isClear_25 : decode cX12_isClear 25 = .ok (.getfield 51, 3) := by decide +kernel
theorem dX12_isClear_28 : decode cX12_isClear 28 = .ok (.iaload, 1) := by decide +kernel
theorem dX12_isClear_29 : decode cX12_isClear 29 = .ok (.if_icmp .ge 48, 3) := by decide +kernel
theorem dX12_isClear_32 : decode cX12_isClear 32 = .ok (.aload_n 0, 1) := by decide +kernel
theorem dX12_isClear_33 : decode cX12_isClear 33 = .ok (.iload_n 1, 1) := by decide +kernel
theorem dX12_isClear_34 : decode cX12_isClear 34 = .ok (.invokevirtual 501, 3) := by decide +kernel
theorem dX12_isClear_37 : decode cX12_isClear 37 = .ok (.iload_n 2, 1) := by decide +kernel
theorem dX12_isClear_38 : decode cX12_isClear 38 = .ok (.invokestatic 351, 3) := by decide +kernel
theorem dX12_isClear_41 : decode cX12_isClear 41 = .ok (.ifCond .eq 30, 3) := by decide +kernel
theorem dX12_isClear_44 : decode cX12_isClear 44 = .ok (.aload_n 0, 1) := by decide +kernel
theorem dX12_isClear_45 : decode cX12_isClear 45 = .ok (.getfield 198, 3) := by decide +kernel
theorem dX12_isClear_48 : decode cX12_isClear 48 = .ok (.iload_n 1, 1) := by decide +kernel
theorem dX12_isClear_49 : decode cX12_isClear 49 = .ok (.iaload, 1) := by decide +kernel
theorem dX12_isClear_50 : decode cX12_isClear 50 = .ok (.iconst (-1), 1) := by decide +kernel
theorem dX12_isClear_51 : decode cX12_isClear 51 = .ok (.if_icmp .eq 20, 3) := by decide +kernel
theorem dX12_isClear_54 : decode cX12_isClear 54 = .ok (.aload_n 0, 1) := by decide +kernel
theorem dX12_isClear_55 : decode cX12_isClear 55 = .ok (.getfield 198, 3) := by decide +kernel
theorem dX12_isClear_58 : decode cX12_isClear 58 = .ok (.iload_n 1, 1) := by decide +kernel
theorem dX12_isClear_59 : decode cX12_isClear 59 = .ok (.iaload, 1) := by decide +kernel
theorem dX12_isClear_60 : decode cX12_isClear 60 = .ok (.aload_n 0, 1) := by decide +kernel
theorem dX12_isClear_61 : decode cX12_isClear 61 = .ok (.getfield 198, 3) := by decide +kernel
theorem dX12_isClear_64 : decode cX12_isClear 64 = .ok (.iload_n 2, 1) := by decide +kernel
theorem dX12_isClear_65 : decode cX12_isClear 65 = .ok (.iaload, 1) := by decide +kernel
theorem dX12_isClear_66 : decode cX12_isClear 66 = .ok (.if_icmp .ne 5, 3) := by decide +kernel
theorem dX12_isClear_69 : decode cX12_isClear 69 = .ok (.iconst 0, 1) := by decide +kernel
theorem dX12_isClear_70 : decode cX12_isClear 70 = .ok (.ireturn, 1) := by decide +kernel
theorem dX12_isClear_71 : decode cX12_isClear 71 = .ok (.iinc 2 1, 3) := by decide +kernel
theorem dX12_isClear_74 : decode cX12_isClear 74 = .ok (.goto (-55), 3) := by decide +kernel
theorem dX12_isClear_77 : decode cX12_isClear 77 = .ok (.iinc 1 1, 3) := by decide +kernel
theorem dX12_isClear_80 : decode cX12_isClear 80 = .ok (.goto (-78), 3) := by decide +kernel
theorem dX12_isClear_83 : decode cX12_isClear 83 = .ok (.iconst 1, 1) := by decide +kernel
theorem dX12_isClear_84 : decode cX12_isClear 84 = .ok (.ireturn, 1) := by decide +kernel
theorem dX12_isCleared_0 : decode cX12_isCleared 0 = .ok (.iconst 1, 1) := by decide +kernel
theorem dX12_isCleared_1 : decode cX12_isCleared 1 = .ok (.istore_n 2, 1) := by decide +kernel
theorem dX12_isCleared_2 : decode cX12_isCleared 2 = .ok (.iconst 0, 1) := by decide +kernel
theorem dX12_isCleared_3 : decode cX12_isCleared 3 = .ok (.istore_n 3, 1) := by decide +kernel
theorem dX12_isCleared_4 : decode cX12_isCleared 4 = .ok (.iload_n 3, 1) := by decide +kernel
theorem dX12_isCleared_5 : decode cX12_isCleared 5 = .ok (.iload_n 1, 1) := by decide +kernel
theorem dX12_isCleared_6 : decode cX12_isCleared 6 = .ok (.invokestatic 521, 3) := by decide +kernel
theorem dX12_isCleared_9 : decode cX12_isCleared 9 = .ok (.if_icmp .ge 21, 3) := by decide +kernel
theorem dX12_isCleared_12 : decode cX12_isCleared 12 = .ok (.iload_n 2, 1) := by decide +kernel
theorem dX12_isCleared_13 : decode cX12_isCleared 13 = .ok (.aload_n 0, 1) := by decide +kernel
theorem dX12_isCleared_14 : decode cX12_isCleared 14 = .ok (.getfield 63, 3) := by decide +kernel
theorem dX12_isCleared_17 : decode cX12_isCleared 17 = .ok (.aload_n 0, 1) := by decide +kernel
theorem dX12_isCleared_18 : decode cX12_isCleared 18 = .ok (.getfield 51, 3) := by decide +kernel
theorem dX12_isCleared_21 : decode cX12_isCleared 21 = .ok (.iaload, 1) := by decide +kernel
theorem dX12_isCleared_22 : decode cX12_isCleared 22 = .ok (.imul, 1) := by decide +kernel
theorem dX12_isCleared_23 : decode cX12_isCleared 23 = .ok (.istore_n 2, 1) := by decide +kernel
theorem dX12_isCleared_24 : decode cX12_isCleared 24 = .ok (.iinc 3 1, 3) := by decide +kernel
theorem dX12_isCleared_27 : decode cX12_isCleared 27 = .ok (.goto (-23), 3) := by decide +kernel
theorem dX12_isCleared_30 : decode cX12_isCleared 30 = .ok (.iconst 0, 1) := by decide +kernel
theorem dX12_isCleared_31 : decode cX12_isCleared 31 = .ok (.istore_n 3, 1) := by decide +kernel
theorem dX12_isCleared_32 : decode cX12_isCleared 32 = .ok (.iload_n 3, 1) := by decide +kernel
theorem dX12_isCleared_33 : decode cX12_isCleared 33 = .ok (.iload_n 2, 1) := by decide +kernel
theorem dX12_isCleared_34 : decode cX12_isCleared 34 = .ok (.if_icmp .ge 103, 3) := by decide +kernel
theorem dX12_isCleared_37 : decode cX12_isCleared 37 = .ok (.iload_n 3, 1) := by decide +kernel
theorem dX12_isCleared_38 : decode cX12_isCleared 38 = .ok (.istore 4, 2) := by decide +kernel
theorem dX12_isCleared_40 : decode cX12_isCleared 40 = .ok (.iconst 0, 1) := by decide +kernel
theorem dX12_isCleared_41 : decode cX12_isCleared 41 = .ok (.istore 5, 2) := by decide +kernel
theorem dX12_isCleared_43 : decode cX12_isCleared 43 = .ok (.iload 5, 2) := by decide +kernel
theorem dX12_isCleared_45 : decode cX12_isCleared 45 = .ok (.aload_n 0, 1) := by decide +kernel
theorem dX12_isCleared_46 : decode cX12_isCleared 46 = .ok (.getfield 72, 3) := by decide +kernel
theorem dX12_isCleared_49 : decode cX12_isCleared 49 = .ok (.aload_n 0, 1) := by decide +kernel
theorem dX12_isCleared_50 : decode cX12_isCleared 50 = .ok (.getfield 51, 3) := by decide +kernel
theorem dX12_isCleared_53 : decode cX12_isCleared 53 = .ok (.iaload, 1) := by decide +kernel
theorem dX12_isCleared_54 : decode cX12_isCleared 54 = .ok (.if_icmp .ge 68, 3) := by decide +kernel
theorem dX12_isCleared_57 : decode cX12_isCleared 57 = .ok (.aload_n 0, 1) := by decide +kernel
theorem dX12_isCleared_58 : decode cX12_isCleared 58 = .ok (.getfield 198, 3) := by decide +kernel
theorem dX12_isCleared_61 : decode cX12_isCleared 61 = .ok (.iload 5, 2) := by decide +kernel
theorem dX12_isCleared_63 : decode cX12_isCleared 63 = .ok (.aload_n 0, 1) := by decide +kernel
theorem dX12_isCleared_64 : decode cX12_isCleared 64 = .ok (.getfield 162, 3) := by decide +kernel
theorem dX12_isCleared_67 : decode cX12_isCleared 67 = .ok (.iload 5, 2) := by decide +kernel
theorem dX12_isCleared_69 : decode cX12_isCleared 69 = .ok (.iaload, 1) := by decide +kernel
theorem dX12_isCleared_70 : decode cX12_isCleared 70 = .ok (.iastore, 1) := by decide +kernel
theorem dX12_isCleared_71 : decode cX12_isCleared 71 = .ok (.iload_n 1, 1) := by decide +kernel
theorem dX12_isCleared_72 : decode cX12_isCleared 72 = .ok (.iload 5, 2) := by decide +kernel
theorem dX12_isCleared_74 : decode cX12_isCleared 74 = .ok (.invokestatic 351, 3) := by decide +kernel
theorem dX12_isCleared_77 : decode cX12_isCleared 77 = .ok (.ifCond .ne 6, 3) := by decide +kernel
theorem dX12_isCleared_80 : decode cX12_isCleared 80 = .ok (.goto 36, 3) := by decide +kernel
theorem dX12_isCleared_83 : decode cX12_isCleared 83 = .ok (.aload_n 0, 1) := by decide +kernel
theorem dX12_isCleared_84 : decode cX12_isCleared 84 = .ok (.getfield 198, 3) := by decide +kernel
theorem dX12_isCleared_87 : decode cX12_isCleared 87 = .ok (.iload 5, 2) := by decide +kernel
theorem dX12_isCleared_89 : decode cX12_isCleared 89 = .ok (.iload 4, 2) := by decide +kernel
theorem dX12_isCleared_91 : decode cX12_isCleared 91 = .ok (.aload_n 0, 1) := by decide +kernel
theorem dX12_isCleared_92 : decode cX12_isCleared 92 = .ok (.getfield 63, 3) := by decide +kernel
theorem dX12_isCleared_95 : decode cX12_isCleared 95 = .ok (.aload_n 0, 1) := by decide +kernel
theorem dX12_isCleared_96 : decode cX12_isCleared 96 = .ok (.getfield 51, 3) := by decide +kernel
theorem dX12_isCleared_99 : decode cX12_isCleared 99 = .ok (.iaload, 1) := by decide +kernel
theorem dX12_isCleared_100 : decode cX12_isCleared 100 = .ok (.irem, 1) := by decide +kernel
theorem dX12_isCleared_101 : decode cX12_isCleared 101 = .ok (.iastore, 1) := by decide +kernel
theorem dX12_isCleared_102 : decode cX12_isCleared 102 = .ok (.iload 4, 2) := by decide +kernel
theorem dX12_isCleared_104 : decode cX12_isCleared 104 = .ok (.aload_n 0, 1) := by decide +kernel
theorem dX12_isCleared_105 : decode cX12_isCleared 105 = .ok (.getfield 63, 3) := by decide +kernel
theorem dX12_isCleared_108 : decode cX12_isCleared 108 = .ok (.aload_n 0, 1) := by decide +kernel
theorem dX12_isCleared_109 : decode cX12_isCleared 109 = .ok (.getfield 51, 3) := by decide +kernel
theorem dX12_isCleared_112 : decode cX12_isCleared 112 = .ok (.iaload, 1) := by decide +kernel
theorem dX12_isCleared_113 : decode cX12_isCleared 113 = .ok (.idiv, 1) := by decide +kernel
theorem dX12_isCleared_114 : decode cX12_isCleared 114 = .ok (.istore 4, 2) := by decide +kernel
theorem dX12_isCleared_116 : decode cX12_isCleared 116 = .ok (.iinc 5 1, 3) := by decide +kernel
theorem dX12_isCleared_119 : decode cX12_isCleared 119 = .ok (.goto (-76), 3) := by decide +kernel
theorem dX12_isCleared_122 : decode cX12_isCleared 122 = .ok (.aload_n 0, 1) := by decide +kernel
theorem dX12_isCleared_123 : decode cX12_isCleared 123 = .ok (.invokevirtual 541, 3) := by decide +kernel
theorem dX12_isCleared_126 : decode cX12_isCleared 126 = .ok (.ifCond .eq 5, 3) := by decide +kernel
theorem dX12_isCleared_129 : decode cX12_isCleared 129 = .ok (.iconst 1, 1) := by decide +kernel
theorem dX12_isCleared_130 : decode cX12_isCleared 130 = .ok (.ireturn, 1) := by decide +kernel
theorem dX12_isCleared_131 : decode cX12_isCleared 131 = .ok (.iinc 3 1, 3) := by decide +kernel
theorem dX12_isCleared_134 : decode cX12_isCleared 134 = .ok (.goto (-102), 3) := by decide +kernel
theorem dX12_isCleared_137 : decode cX12_isCleared 137 = .ok (.iconst 0, 1) := by decide +kernel
theorem dX12_isCleared_138 : decode cX12_isCleared 138 = .ok (.ireturn, 1) := by decide +kernel
theorem dX12_clear_0 : decode cX12_clear 0 = .ok (.iconst (-1), 1) := by decide +kernel
theorem dX12_clear_1 : decode cX12_clear 1 = .ok (.istore_n 1, 1) := by decide +kernel
theorem dX12_clear_2 : decode cX12_clear 2 = .ok (.iconst 0, 1) := by decide +kernel
theorem dX12_clear_3 : decode cX12_clear 3 = .ok (.istore_n 2, 1) := by decide +kernel
theorem dX12_clear_4 : decode cX12_clear 4 = .ok (.iload_n 2, 1) := by decide +kernel
theorem dX12_clear_5 : decode cX12_clear 5 = .ok (.iconst 1, 1) := by decide +kernel
theorem dX12_clear_6 : decode cX12_clear 6 = .ok (.aload_n 0, 1) := by decide +kernel
theorem dX12_clear_7 : decode cX12_clear 7 = .ok (.getfield 72, 3) := by decide +kernel
theorem dX12_clear_10 : decode cX12_clear 10 = .ok (.aload_n 0, 1) := by decide +kernel
theorem dX12_clear_11 : decode cX12_clear 11 = .ok (.getfield 51, 3) := by decide +kernel
theorem dX12_clear_14 : decode cX12_clear 14 = .ok (.iaload, 1) := by decide +kernel
theorem dX12_clear_15 : decode cX12_clear 15 = .ok (.ishl, 1) := by decide +kernel
theorem dX12_clear_16 : decode cX12_clear 16 = .ok (.if_icmp .ge 98, 3) := by decide +kernel
theorem dX12_clear_19 : decode cX12_clear 19 = .ok (.iload_n 1, 1) := by decide +kernel
theorem dX12_clear_20 : decode cX12_clear 20 = .ok (.iconst (-1), 1) := by decide +kernel
theorem dX12_clear_21 : decode cX12_clear 21 = .ok (.if_icmp .eq 14, 3) := by decide +kernel
theorem dX12_clear_24 : decode cX12_clear 24 = .ok (.iload_n 2, 1) := by decide +kernel
theorem dX12_clear_25 : decode cX12_clear 25 = .ok (.invokestatic 521, 3) := by decide +kernel
theorem dX12_clear_28 : decode cX12_clear 28 = .ok (.iload_n 1, 1) := by decide +kernel
theorem dX12_clear_29 : decode cX12_clear 29 = .ok (.invokestatic 521, 3) := by decide +kernel
theorem dX12_clear_32 : decode cX12_clear 32 = .ok (.if_icmp .ge 7, 3) := by decide +kernel
theorem dX12_clear_35 : decode cX12_clear 35 = .ok (.iconst 1, 1) := by decide +kernel
theorem dX12_clear_36 : decode cX12_clear 36 = .ok (.goto 4, 3) := by decide +kernel
theorem dX12_clear_39 : decode cX12_clear 39 = .ok (.iconst 0, 1) := by decide +kernel
theorem dX12_clear_40 : decode cX12_clear 40 = .ok (.istore_n 3, 1) := by decide +kernel
theorem dX12_clear_41 : decode cX12_clear 41 = .ok (.iconst 0, 1) := by decide +kernel
theorem dX12_clear_42 : decode cX12_clear 42 = .ok (.istore 4, 2) := by decide +kernel
theorem dX12_clear_44 : decode cX12_clear 44 = .ok (.iload 4, 2) := by decide +kernel
theorem dX12_clear_46 : decode cX12_clear 46 = .ok (.aload_n 0, 1) := by decide +kernel
theorem dX12_clear_47 : decode cX12_clear 47 = .ok (.getfield 72, 3) := by decide +kernel
theorem dX12_clear_50 : decode cX12_clear 50 = .ok (.aload_n 0, 1) := by decide +kernel
theorem dX12_clear_51 : decode cX12_clear 51 = .ok (.getfield 51, 3) := by decide +kernel
theorem dX12_clear_54 : decode cX12_clear 54 = .ok (.iaload, 1) := by decide +kernel
theorem dX12_clear_55 : decode cX12_clear 55 = .ok (.if_icmp .ge 39, 3) := by decide +kernel
theorem dX12_clear_58 : decode cX12_clear 58 = .ok (.iload_n 3, 1) := by decide +kernel
theorem dX12_clear_59 : decode cX12_clear 59 = .ok (.ifCond .eq 35, 3) := by decide +kernel
theorem dX12_clear_62 : decode cX12_clear 62 = .ok (.iload_n 2, 1) := by decide +kernel
theorem dX12_clear_63 : decode cX12_clear 63 = .ok (.iload 4, 2) := by decide +kernel
theorem dX12_clear_65 : decode cX12_clear 65 = .ok (.invokestatic 351, 3) := by decide +kernel
theorem dX12_clear_68 : decode cX12_clear 68 = .ok (.ifCond .eq 14, 3) := by decide +kernel
theorem dX12_clear_71 : decode cX12_clear 71 = .ok (.aload_n 0, 1) := by decide +kernel
theorem dX12_clear_72 : decode cX12_clear 72 = .ok (.getfield 162, 3) := by decide +kernel
theorem dX12_clear_75 : decode cX12_clear 75 = .ok (.iload 4, 2) := by decide +kernel
theorem dX12_clear_77 : decode cX12_clear 77 = .ok (.iaload, 1) := by decide +kernel
theorem dX12_clear_78 : decode cX12_clear 78 = .ok (.iconst (-1), 1) := by decide +kernel
theorem dX12_clear_79 : decode cX12_clear 79 = .ok (.if_icmp .eq 7, 3) := by decide +kernel
theorem dX12_clear_82 : decode cX12_clear 82 = .ok (.iconst 1, 1) := by decide +kernel
theorem dX12_clear_83 : decode cX12_clear 83 = .ok (.goto 4, 3) := by decide +kernel
theorem dX12_clear_86 : decode cX12_clear 86 = .ok (.iconst 0, 1) := by decide +kernel
theorem dX12_clear_87 : decode cX12_clear 87 = .ok (.istore_n 3, 1) := by decide +kernel
theorem dX12_clear_88 : decode cX12_clear 88 = .ok (.iinc 4 1, 3) := by decide +kernel
theorem dX12_clear_91 : decode cX12_clear 91 = .ok (.goto (-47), 3) := by decide +kernel
theorem dX12_clear_94 : decode cX12_clear 94 = .ok (.iload_n 3, 1) := by decide +kernel
theorem dX12_clear_95 : decode cX12_clear 95 = .ok (.ifCond .eq 13, 3) := by decide +kernel
theorem dX12_clear_98 : decode cX12_clear 98 = .ok (.aload_n 0, 1) := by decide +kernel
theorem dX12_clear_99 : decode cX12_clear 99 = .ok (.iload_n 2, 1) := by decide +kernel
theorem dX12_clear_100 : decode cX12_clear 100 = .ok (.invokevirtual 544, 3) := by decide +kernel
theorem dX12_clear_103 : decode cX12_clear 103 = .ok (.ifCond .eq 5, 3) := by decide +kernel
theorem dX12_clear_106 : decode cX12_clear 106 = .ok (.iload_n 2, 1) := by decide +kernel
theorem dX12_clear_107 : decode cX12_clear 107 = .ok (.istore_n 1, 1) := by decide +kernel
theorem dX12_clear_108 : decode cX12_clear 108 = .ok (.iinc 2 1, 3) := by decide +kernel
theorem dX12_clear_111 : decode cX12_clear 111 = .ok (.goto (-107), 3) := by decide +kernel
theorem dX12_clear_114 : decode cX12_clear 114 = .ok (.iload_n 1, 1) := by decide +kernel
theorem dX12_clear_115 : decode cX12_clear 115 = .ok (.ireturn, 1) := by decide +kernel
theorem dX12_odds_0 : decode cX12_odds 0 = .ok (.iload_n 1, 1) := by decide +kernel
theorem dX12_odds_1 : decode cX12_odds 1 = .ok (.iconst (-1), 1) := by decide +kernel
theorem dX12_odds_2 : decode cX12_odds 2 = .ok (.if_icmp .eq 11, 3) := by decide +kernel
theorem dX12_odds_5 : decode cX12_odds 5 = .ok (.aload_n 0, 1) := by decide +kernel
theorem dX12_odds_6 : decode cX12_odds 6 = .ok (.iload_n 1, 1) := by decide +kernel
theorem dX12_odds_7 : decode cX12_odds 7 = .ok (.invokevirtual 510, 3) := by decide +kernel
theorem dX12_odds_10 : decode cX12_odds 10 = .ok (.ifCond .eq 37, 3) := by decide +kernel
theorem dX12_odds_13 : decode cX12_odds 13 = .ok (.aload_n 0, 1) := by decide +kernel
theorem dX12_odds_14 : decode cX12_odds 14 = .ok (.getfield 54, 3) := by decide +kernel
theorem dX12_odds_17 : decode cX12_odds 17 = .ok (.aload_n 0, 1) := by decide +kernel
theorem dX12_odds_18 : decode cX12_odds 18 = .ok (.getfield 51, 3) := by decide +kernel
theorem dX12_odds_21 : decode cX12_odds 21 = .ok (.iaload, 1) := by decide +kernel
theorem dX12_odds_22 : decode cX12_odds 22 = .ok (.ifCond .eq 25, 3) := by decide +kernel
theorem dX12_odds_25 : decode cX12_odds 25 = .ok (.aload_n 0, 1) := by decide +kernel
theorem dX12_odds_26 : decode cX12_odds 26 = .ok (.getfield 72, 3) := by decide +kernel
theorem dX12_odds_29 : decode cX12_odds 29 = .ok (.aload_n 0, 1) := by decide +kernel
theorem dX12_odds_30 : decode cX12_odds 30 = .ok (.getfield 51, 3) := by decide +kernel
theorem dX12_odds_33 : decode cX12_odds 33 = .ok (.iaload, 1) := by decide +kernel
theorem dX12_odds_34 : decode cX12_odds 34 = .ok (.ifCond .eq 13, 3) := by decide +kernel
theorem dX12_odds_37 : decode cX12_odds 37 = .ok (.aload_n 0, 1) := by decide +kernel
theorem dX12_odds_38 : decode cX12_odds 38 = .ok (.iconst 1, 1) := by decide +kernel
theorem dX12_odds_39 : decode cX12_odds 39 = .ok (.iconst 1, 1) := by decide +kernel
theorem dX12_odds_40 : decode cX12_odds 40 = .ok (.iconst 1, 1) := by decide +kernel
theorem dX12_odds_41 : decode cX12_odds 41 = .ok (.invokevirtual 529, 3) := by decide +kernel
theorem dX12_odds_44 : decode cX12_odds 44 = .ok (.ifCond .ne 5, 3) := by decide +kernel
theorem dX12_odds_47 : decode cX12_odds 47 = .ok (.iconst (-1), 1) := by decide +kernel
theorem dX12_odds_48 : decode cX12_odds 48 = .ok (.ireturn, 1) := by decide +kernel
theorem dX12_odds_49 : decode cX12_odds 49 = .ok (.iload_n 1, 1) := by decide +kernel
theorem dX12_odds_50 : decode cX12_odds 50 = .ok (.iconst (-1), 1) := by decide +kernel
theorem dX12_odds_51 : decode cX12_odds 51 = .ok (.if_icmp .ne 16, 3) := by decide +kernel
theorem dX12_odds_54 : decode cX12_odds 54 = .ok (.bipush 100, 2) := by decide +kernel
theorem dX12_odds_56 : decode cX12_odds 56 = .ok (.aload_n 0, 1) := by decide +kernel
theorem dX12_odds_57 : decode cX12_odds 57 = .ok (.getfield 54, 3) := by decide +kernel
theorem dX12_odds_60 : decode cX12_odds 60 = .ok (.aload_n 0, 1) := by decide +kernel
theorem dX12_odds_61 : decode cX12_odds 61 = .ok (.getfield 51, 3) := by decide +kernel
theorem dX12_odds_64 : decode cX12_odds 64 = .ok (.iaload, 1) := by decide +kernel
theorem dX12_odds_65 : decode cX12_odds 65 = .ok (.imul, 1) := by decide +kernel
theorem dX12_odds_66 : decode cX12_odds 66 = .ok (.ireturn, 1) := by decide +kernel
theorem dX12_odds_67 : decode cX12_odds 67 = .ok (.aload_n 0, 1) := by decide +kernel
theorem dX12_odds_68 : decode cX12_odds 68 = .ok (.getfield 150, 3) := by decide +kernel
theorem dX12_odds_71 : decode cX12_odds 71 = .ok (.iconst 0, 1) := by decide +kernel
theorem dX12_odds_72 : decode cX12_odds 72 = .ok (.iaload, 1) := by decide +kernel
theorem dX12_odds_73 : decode cX12_odds 73 = .ok (.aload_n 0, 1) := by decide +kernel
theorem dX12_odds_74 : decode cX12_odds 74 = .ok (.getfield 72, 3) := by decide +kernel
theorem dX12_odds_77 : decode cX12_odds 77 = .ok (.aload_n 0, 1) := by decide +kernel
theorem dX12_odds_78 : decode cX12_odds 78 = .ok (.getfield 51, 3) := by decide +kernel
theorem dX12_odds_81 : decode cX12_odds 81 = .ok (.iaload, 1) := by decide +kernel
theorem dX12_odds_82 : decode cX12_odds 82 = .ok (.irem, 1) := by decide +kernel
theorem dX12_odds_83 : decode cX12_odds 83 = .ok (.istore_n 2, 1) := by decide +kernel
theorem dX12_odds_84 : decode cX12_odds 84 = .ok (.aload_n 0, 1) := by decide +kernel
theorem dX12_odds_85 : decode cX12_odds 85 = .ok (.iconst 0, 1) := by decide +kernel
theorem dX12_odds_86 : decode cX12_odds 86 = .ok (.iload_n 2, 1) := by decide +kernel
theorem dX12_odds_87 : decode cX12_odds 87 = .ok (.aload_n 0, 1) := by decide +kernel
theorem dX12_odds_88 : decode cX12_odds 88 = .ok (.invokevirtual 487, 3) := by decide +kernel
theorem dX12_odds_91 : decode cX12_odds 91 = .ok (.invokevirtual 491, 3) := by decide +kernel
theorem dX12_odds_94 : decode cX12_odds 94 = .ok (.iload_n 1, 1) := by decide +kernel
theorem dX12_odds_95 : decode cX12_odds 95 = .ok (.if_icmp .ne 28, 3) := by decide +kernel
theorem dX12_odds_98 : decode cX12_odds 98 = .ok (.bipush 100, 2) := by decide +kernel
theorem dX12_odds_100 : decode cX12_odds 100 = .ok (.aload_n 0, 1) := by decide +kernel
theorem dX12_odds_101 : decode cX12_odds 101 = .ok (.getfield 87, 3) := by decide +kernel
theorem dX12_odds_104 : decode cX12_odds 104 = .ok (.aload_n 0, 1) := by decide +kernel
theorem dX12_odds_105 : decode cX12_odds 105 = .ok (.getfield 51, 3) := by decide +kernel
theorem dX12_odds_108 : decode cX12_odds 108 = .ok (.iaload, 1) := by decide +kernel
theorem dX12_odds_109 : decode cX12_odds 109 = .ok (.isub, 1) := by decide +kernel
theorem dX12_odds_110 : decode cX12_odds 110 = .ok (.aload_n 0, 1) := by decide +kernel
theorem dX12_odds_111 : decode cX12_odds 111 = .ok (.getfield 54, 3) := by decide +kernel
theorem dX12_odds_114 : decode cX12_odds 114 = .ok (.aload_n 0, 1) := by decide +kernel
theorem dX12_odds_115 : decode cX12_odds 115 = .ok (.getfield 51, 3) := by decide +kernel
theorem dX12_odds_118 : decode cX12_odds 118 = .ok (.iaload, 1) := by decide +kernel
theorem dX12_odds_119 : decode cX12_odds 119 = .ok (.imul, 1) := by decide +kernel
theorem dX12_odds_120 : decode cX12_odds 120 = .ok (.goto 4, 3) := by decide +kernel
theorem dX12_odds_123 : decode cX12_odds 123 = .ok (.iconst 0, 1) := by decide +kernel
theorem dX12_odds_124 : decode cX12_odds 124 = .ok (.istore_n 3, 1) := by decide +kernel
theorem dX12_odds_125 : decode cX12_odds 125 = .ok (.iconst 0, 1) := by decide +kernel
theorem dX12_odds_126 : decode cX12_odds 126 = .ok (.istore 4, 2) := by decide +kernel
theorem dX12_odds_128 : decode cX12_odds 128 = .ok (.iload 4, 2) := by decide +kernel
theorem dX12_odds_130 : decode cX12_odds 130 = .ok (.aload_n 0, 1) := by decide +kernel
theorem dX12_odds_131 : decode cX12_odds 131 = .ok (.getfield 54, 3) := by decide +kernel
theorem dX12_odds_134 : decode cX12_odds 134 = .ok (.aload_n 0, 1) := by decide +kernel
theorem dX12_odds_135 : decode cX12_odds 135 = .ok (.getfield 51, 3) := by decide +kernel
theorem dX12_odds_138 : decode cX12_odds 138 = .ok (.iaload, 1) := by decide +kernel
theorem dX12_odds_139 : decode cX12_odds 139 = .ok (.if_icmp .ge 46, 3) := by decide +kernel
theorem dX12_odds_142 : decode cX12_odds 142 = .ok (.iload_n 3, 1) := by decide +kernel
theorem dX12_odds_143 : decode cX12_odds 143 = .ok (.aload_n 0, 1) := by decide +kernel
theorem dX12_odds_144 : decode cX12_odds 144 = .ok (.iconst 0, 1) := by decide +kernel
theorem dX12_odds_145 : decode cX12_odds 145 = .ok (.iload_n 2, 1) := by decide +kernel
theorem dX12_odds_146 : decode cX12_odds 146 = .ok (.aload_n 0, 1) := by decide +kernel
theorem dX12_odds_147 : decode cX12_odds 147 = .ok (.invokevirtual 487, 3) := by decide +kernel
theorem dX12_odds_150 : decode cX12_odds 150 = .ok (.iconst 1, 1) := by decide +kernel
theorem dX12_odds_151 : decode cX12_odds 151 = .ok (.iload 4, 2) := by decide +kernel
theorem dX12_odds_153 : decode cX12_odds 153 = .ok (.ishl, 1) := by decide +kernel
theorem dX12_odds_154 : decode cX12_odds 154 = .ok (.iconst (-1), 1) := by decide +kernel
theorem dX12_odds_155 : decode cX12_odds 155 = .ok (.ixor, 1) := by decide +kernel
theorem dX12_odds_156 : decode cX12_odds 156 = .ok (.iand, 1) := by decide +kernel
theorem dX12_odds_157 : decode cX12_odds 157 = .ok (.invokevirtual 491, 3) := by decide +kernel
theorem dX12_odds_160 : decode cX12_odds 160 = .ok (.iload_n 1, 1) := by decide +kernel
theorem dX12_odds_161 : decode cX12_odds 161 = .ok (.if_icmp .ne 15, 3) := by decide +kernel
theorem dX12_odds_164 : decode cX12_odds 164 = .ok (.aload_n 0, 1) := by decide +kernel
theorem dX12_odds_165 : decode cX12_odds 165 = .ok (.getfield 87, 3) := by decide +kernel
theorem dX12_odds_168 : decode cX12_odds 168 = .ok (.aload_n 0, 1) := by decide +kernel
theorem dX12_odds_169 : decode cX12_odds 169 = .ok (.getfield 51, 3) := by decide +kernel
theorem dX12_odds_172 : decode cX12_odds 172 = .ok (.iaload, 1) := by decide +kernel
theorem dX12_odds_173 : decode cX12_odds 173 = .ok (.goto 4, 3) := by decide +kernel
theorem dX12_odds_176 : decode cX12_odds 176 = .ok (.iconst 0, 1) := by decide +kernel
theorem dX12_odds_177 : decode cX12_odds 177 = .ok (.iadd, 1) := by decide +kernel
theorem dX12_odds_178 : decode cX12_odds 178 = .ok (.istore_n 3, 1) := by decide +kernel
theorem dX12_odds_179 : decode cX12_odds 179 = .ok (.iinc 4 1, 3) := by decide +kernel
theorem dX12_odds_182 : decode cX12_odds 182 = .ok (.goto (-54), 3) := by decide +kernel
theorem dX12_odds_185 : decode cX12_odds 185 = .ok (.iload_n 3, 1) := by decide +kernel
theorem dX12_odds_186 : decode cX12_odds 186 = .ok (.ireturn, 1) := by decide +kernel
theorem dX12_meet_0 : decode cX12_meet 0 = .ok (.aload_n 0, 1) := by decide +kernel
theorem dX12_meet_1 : decode cX12_meet 1 = .ok (.getfield 13, 3) := by decide +kernel
theorem dX12_meet_4 : decode cX12_meet 4 = .ok (.istore_n 1, 1) := by decide +kernel
theorem dX12_meet_5 : decode cX12_meet 5 = .ok (.aload_n 0, 1) := by decide +kernel
theorem dX12_meet_6 : decode cX12_meet 6 = .ok (.iconst 0, 1) := by decide +kernel
theorem dX12_meet_7 : decode cX12_meet 7 = .ok (.putfield 13, 3) := by decide +kernel
theorem dX12_meet_10 : decode cX12_meet 10 = .ok (.iload_n 1, 1) := by decide +kernel
theorem dX12_meet_11 : decode cX12_meet 11 = .ok (.ifCond .le 19, 3) := by decide +kernel
theorem dX12_meet_14 : decode cX12_meet 14 = .ok (.iload_n 1, 1) := by decide +kernel
theorem dX12_meet_15 : decode cX12_meet 15 = .ok (.iconst 3, 1) := by decide +kernel
theorem dX12_meet_16 : decode cX12_meet 16 = .ok (.irem, 1) := by decide +kernel
theorem dX12_meet_17 : decode cX12_meet 17 = .ok (.ifCond .ne 13, 3) := by decide +kernel
theorem dX12_meet_20 : decode cX12_meet 20 = .ok (.iload_n 1, 1) := by decide +kernel
theorem dX12_meet_21 : decode cX12_meet 21 = .ok (.bipush 48, 2) := by decide +kernel
theorem dX12_meet_23 : decode cX12_meet 23 = .ok (.if_icmp .gt 7, 3) := by decide +kernel
theorem dX12_meet_26 : decode cX12_meet 26 = .ok (.iconst 1, 1) := by decide +kernel
theorem dX12_meet_27 : decode cX12_meet 27 = .ok (.goto 4, 3) := by decide +kernel
theorem dX12_meet_30 : decode cX12_meet 30 = .ok (.iconst 0, 1) := by decide +kernel
theorem dX12_meet_31 : decode cX12_meet 31 = .ok (.istore_n 2, 1) := by decide +kernel
theorem dX12_meet_32 : decode cX12_meet 32 = .ok (.iconst 0, 1) := by decide +kernel
theorem dX12_meet_33 : decode cX12_meet 33 = .ok (.istore_n 3, 1) := by decide +kernel
theorem dX12_meet_34 : decode cX12_meet 34 = .ok (.iload_n 3, 1) := by decide +kernel
theorem dX12_meet_35 : decode cX12_meet 35 = .ok (.iload_n 1, 1) := by decide +kernel
theorem dX12_meet_36 : decode cX12_meet 36 = .ok (.if_icmp .ge 74, 3) := by decide +kernel
theorem dX12_meet_39 : decode cX12_meet 39 = .ok (.iload_n 2, 1) := by decide +kernel
theorem dX12_meet_40 : decode cX12_meet 40 = .ok (.ifCond .eq 70, 3) := by decide +kernel
theorem dX12_meet_43 : decode cX12_meet 43 = .ok (.aload_n 0, 1) := by decide +kernel
theorem dX12_meet_44 : decode cX12_meet 44 = .ok (.getfield 7, 3) := by decide +kernel
theorem dX12_meet_47 : decode cX12_meet 47 = .ok (.iload_n 3, 1) := by decide +kernel
theorem dX12_meet_48 : decode cX12_meet 48 = .ok (.iaload, 1) := by decide +kernel
theorem dX12_meet_49 : decode cX12_meet 49 = .ok (.bipush 30, 2) := by decide +kernel
theorem dX12_meet_51 : decode cX12_meet 51 = .ok (.if_icmp .gt 51, 3) := by decide +kernel
theorem dX12_meet_54 : decode cX12_meet 54 = .ok (.aload_n 0, 1) := by decide +kernel
theorem dX12_meet_55 : decode cX12_meet 55 = .ok (.aload_n 0, 1) := by decide +kernel
theorem dX12_meet_56 : decode cX12_meet 56 = .ok (.getfield 7, 3) := by decide +kernel
theorem dX12_meet_59 : decode cX12_meet 59 = .ok (.iload_n 3, 1) := by decide +kernel
theorem dX12_meet_60 : decode cX12_meet 60 = .ok (.iconst 1, 1) := by decide +kernel
theorem dX12_meet_61 : decode cX12_meet 61 = .ok (.iadd, 1) := by decide +kernel
theorem dX12_meet_62 : decode cX12_meet 62 = .ok (.iaload, 1) := by decide +kernel
theorem dX12_meet_63 : decode cX12_meet 63 = .ok (.invokevirtual 513, 3) := by decide +kernel
theorem dX12_meet_66 : decode cX12_meet 66 = .ok (.ifCond .eq 36, 3) := by decide +kernel
theorem dX12_meet_69 : decode cX12_meet 69 = .ok (.aload_n 0, 1) := by decide +kernel
theorem dX12_meet_70 : decode cX12_meet 70 = .ok (.aload_n 0, 1) := by decide +kernel
theorem dX12_meet_71 : decode cX12_meet 71 = .ok (.getfield 7, 3) := by decide +kernel
theorem dX12_meet_74 : decode cX12_meet 74 = .ok (.iload_n 3, 1) := by decide +kernel
theorem dX12_meet_75 : decode cX12_meet 75 = .ok (.iconst 2, 1) := by decide +kernel
theorem dX12_meet_76 : decode cX12_meet 76 = .ok (.iadd, 1) := by decide +kernel
theorem dX12_meet_77 : decode cX12_meet 77 = .ok (.iaload, 1) := by decide +kernel
theorem dX12_meet_78 : decode cX12_meet 78 = .ok (.invokevirtual 510, 3) := by decide +kernel
theorem dX12_meet_81 : decode cX12_meet 81 = .ok (.ifCond .ne 17, 3) := by decide +kernel
theorem dX12_meet_84 : decode cX12_meet 84 = .ok (.aload_n 0, 1) := by decide +kernel
theorem dX12_meet_85 : decode cX12_meet 85 = .ok (.getfield 7, 3) := by decide +kernel
theorem dX12_meet_88 : decode cX12_meet 88 = .ok (.iload_n 3, 1) := by decide +kernel
theorem dX12_meet_89 : decode cX12_meet 89 = .ok (.iconst 2, 1) := by decide +kernel
theorem dX12_meet_90 : decode cX12_meet 90 = .ok (.iadd, 1) := by decide +kernel
theorem dX12_meet_91 : decode cX12_meet 91 = .ok (.iaload, 1) := by decide +kernel
theorem dX12_meet_92 : decode cX12_meet 92 = .ok (.sipush 255, 3) := by decide +kernel
theorem dX12_meet_95 : decode cX12_meet 95 = .ok (.if_icmp .ne 7, 3) := by decide +kernel
theorem dX12_meet_98 : decode cX12_meet 98 = .ok (.iconst 1, 1) := by decide +kernel
theorem dX12_meet_99 : decode cX12_meet 99 = .ok (.goto 4, 3) := by decide +kernel
theorem dX12_meet_102 : decode cX12_meet 102 = .ok (.iconst 0, 1) := by decide +kernel
theorem dX12_meet_103 : decode cX12_meet 103 = .ok (.istore_n 2, 1) := by decide +kernel
theorem dX12_meet_104 : decode cX12_meet 104 = .ok (.iinc 3 3, 3) := by decide +kernel
theorem dX12_meet_107 : decode cX12_meet 107 = .ok (.goto (-73), 3) := by decide +kernel
theorem dX12_meet_110 : decode cX12_meet 110 = .ok (.iload_n 2, 1) := by decide +kernel
theorem dX12_meet_111 : decode cX12_meet 111 = .ok (.ifCond .ne 9, 3) := by decide +kernel
theorem dX12_meet_114 : decode cX12_meet 114 = .ok (.aload_n 0, 1) := by decide +kernel
theorem dX12_meet_115 : decode cX12_meet 115 = .ok (.iconst 5, 1) := by decide +kernel
theorem dX12_meet_116 : decode cX12_meet 116 = .ok (.invokevirtual 222, 3) := by decide +kernel
theorem dX12_meet_119 : decode cX12_meet 119 = .ok (.ireturn, 1) := by decide +kernel
theorem dX12_meet_120 : decode cX12_meet 120 = .ok (.aload_n 0, 1) := by decide +kernel
theorem dX12_meet_121 : decode cX12_meet 121 = .ok (.iload_n 1, 1) := by decide +kernel
theorem dX12_meet_122 : decode cX12_meet 122 = .ok (.iconst 3, 1) := by decide +kernel
theorem dX12_meet_123 : decode cX12_meet 123 = .ok (.idiv, 1) := by decide +kernel
theorem dX12_meet_124 : decode cX12_meet 124 = .ok (.putfield 201, 3) := by decide +kernel
theorem dX12_meet_127 : decode cX12_meet 127 = .ok (.iconst 0, 1) := by decide +kernel
theorem dX12_meet_128 : decode cX12_meet 128 = .ok (.istore_n 3, 1) := by decide +kernel
theorem dX12_meet_129 : decode cX12_meet 129 = .ok (.iload_n 3, 1) := by decide +kernel
theorem dX12_meet_130 : decode cX12_meet 130 = .ok (.aload_n 0, 1) := by decide +kernel
theorem dX12_meet_131 : decode cX12_meet 131 = .ok (.getfield 201, 3) := by decide +kernel
theorem dX12_meet_134 : decode cX12_meet 134 = .ok (.if_icmp .ge 75, 3) := by decide +kernel
theorem dX12_meet_137 : decode cX12_meet 137 = .ok (.aload_n 0, 1) := by decide +kernel
theorem dX12_meet_138 : decode cX12_meet 138 = .ok (.getfield 204, 3) := by decide +kernel
theorem dX12_meet_141 : decode cX12_meet 141 = .ok (.iload_n 3, 1) := by decide +kernel
theorem dX12_meet_142 : decode cX12_meet 142 = .ok (.aload_n 0, 1) := by decide +kernel
theorem dX12_meet_143 : decode cX12_meet 143 = .ok (.getfield 7, 3) := by decide +kernel
theorem dX12_meet_146 : decode cX12_meet 146 = .ok (.iconst 3, 1) := by decide +kernel
theorem dX12_meet_147 : decode cX12_meet 147 = .ok (.iload_n 3, 1) := by decide +kernel
theorem dX12_meet_148 : decode cX12_meet 148 = .ok (.imul, 1) := by decide +kernel
theorem dX12_meet_149 : decode cX12_meet 149 = .ok (.iaload, 1) := by decide +kernel
theorem dX12_meet_150 : decode cX12_meet 150 = .ok (.iastore, 1) := by decide +kernel
theorem dX12_meet_151 : decode cX12_meet 151 = .ok (.aload_n 0, 1) := by decide +kernel
theorem dX12_meet_152 : decode cX12_meet 152 = .ok (.getfield 207, 3) := by decide +kernel
theorem dX12_meet_155 : decode cX12_meet 155 = .ok (.iload_n 3, 1) := by decide +kernel
theorem dX12_meet_156 : decode cX12_meet 156 = .ok (.aload_n 0, 1) := by decide +kernel
theorem dX12_meet_157 : decode cX12_meet 157 = .ok (.getfield 7, 3) := by decide +kernel
theorem dX12_meet_160 : decode cX12_meet 160 = .ok (.iconst 3, 1) := by decide +kernel
theorem dX12_meet_161 : decode cX12_meet 161 = .ok (.iload_n 3, 1) := by decide +kernel
theorem dX12_meet_162 : decode cX12_meet 162 = .ok (.imul, 1) := by decide +kernel
theorem dX12_meet_163 : decode cX12_meet 163 = .ok (.iconst 1, 1) := by decide +kernel
theorem dX12_meet_164 : decode cX12_meet 164 = .ok (.iadd, 1) := by decide +kernel
theorem dX12_meet_165 : decode cX12_meet 165 = .ok (.iaload, 1) := by decide +kernel
theorem dX12_meet_166 : decode cX12_meet 166 = .ok (.iastore, 1) := by decide +kernel
theorem dX12_meet_167 : decode cX12_meet 167 = .ok (.aload_n 0, 1) := by decide +kernel
theorem dX12_meet_168 : decode cX12_meet 168 = .ok (.getfield 210, 3) := by decide +kernel
theorem dX12_meet_171 : decode cX12_meet 171 = .ok (.iload_n 3, 1) := by decide +kernel
theorem dX12_meet_172 : decode cX12_meet 172 = .ok (.aload_n 0, 1) := by decide +kernel
theorem dX12_meet_173 : decode cX12_meet 173 = .ok (.getfield 7, 3) := by decide +kernel
theorem dX12_meet_176 : decode cX12_meet 176 = .ok (.iconst 3, 1) := by decide +kernel
theorem dX12_meet_177 : decode cX12_meet 177 = .ok (.iload_n 3, 1) := by decide +kernel
theorem dX12_meet_178 : decode cX12_meet 178 = .ok (.imul, 1) := by decide +kernel
theorem dX12_meet_179 : decode cX12_meet 179 = .ok (.iconst 2, 1) := by decide +kernel
theorem dX12_meet_180 : decode cX12_meet 180 = .ok (.iadd, 1) := by decide +kernel
theorem dX12_meet_181 : decode cX12_meet 181 = .ok (.iaload, 1) := by decide +kernel
theorem dX12_meet_182 : decode cX12_meet 182 = .ok (.sipush 255, 3) := by decide +kernel
theorem dX12_meet_185 : decode cX12_meet 185 = .ok (.if_icmp .ne 7, 3) := by decide +kernel
theorem dX12_meet_188 : decode cX12_meet 188 = .ok (.iconst (-1), 1) := by decide +kernel
theorem dX12_meet_189 : decode cX12_meet 189 = .ok (.goto 13, 3) := by decide +kernel
theorem dX12_meet_192 : decode cX12_meet 192 = .ok (.aload_n 0, 1) := by decide +kernel
theorem dX12_meet_193 : decode cX12_meet 193 = .ok (.getfield 7, 3) := by decide +kernel
theorem dX12_meet_196 : decode cX12_meet 196 = .ok (.iconst 3, 1) := by decide +kernel
theorem dX12_meet_197 : decode cX12_meet 197 = .ok (.iload_n 3, 1) := by decide +kernel
theorem dX12_meet_198 : decode cX12_meet 198 = .ok (.imul, 1) := by decide +kernel
theorem dX12_meet_199 : decode cX12_meet 199 = .ok (.iconst 2, 1) := by decide +kernel
theorem dX12_meet_200 : decode cX12_meet 200 = .ok (.iadd, 1) := by decide +kernel
theorem dX12_meet_201 : decode cX12_meet 201 = .ok (.iaload, 1) := by decide +kernel
theorem dX12_meet_202 : decode cX12_meet 202 = .ok (.iastore, 1) := by decide +kernel
theorem dX12_meet_203 : decode cX12_meet 203 = .ok (.iinc 3 1, 3) := by decide +kernel
theorem dX12_meet_206 : decode cX12_meet 206 = .ok (.goto (-77), 3) := by decide +kernel
theorem dX12_meet_209 : decode cX12_meet 209 = .ok (.aload_n 0, 1) := by decide +kernel
theorem dX12_meet_210 : decode cX12_meet 210 = .ok (.getfield 201, 3) := by decide +kernel
theorem dX12_meet_213 : decode cX12_meet 213 = .ok (.ireturn, 1) := by decide +kernel
theorem dX12_tasteBits_0 : decode cX12_tasteBits 0 = .ok (.iconst 0, 1) := by decide +kernel
theorem dX12_tasteBits_1 : decode cX12_tasteBits 1 = .ok (.istore_n 2, 1) := by decide +kernel
theorem dX12_tasteBits_2 : decode cX12_tasteBits 2 = .ok (.iconst 0, 1) := by decide +kernel
theorem dX12_tasteBits_3 : decode cX12_tasteBits 3 = .ok (.istore_n 3, 1) := by decide +kernel
theorem dX12_tasteBits_4 : decode cX12_tasteBits 4 = .ok (.iload_n 3, 1) := by decide +kernel
theorem dX12_tasteBits_5 : decode cX12_tasteBits 5 = .ok (.bipush 9, 2) := by decide +kernel
theorem dX12_tasteBits_7 : decode cX12_tasteBits 7 = .ok (.if_icmp .gt 190, 3) := by decide +kernel
theorem dX12_tasteBits_10 : decode cX12_tasteBits 10 = .ok (.aload_n 0, 1) := by decide +kernel
theorem dX12_tasteBits_11 : decode cX12_tasteBits 11 = .ok (.iconst 1, 1) := by decide +kernel
theorem dX12_tasteBits_12 : decode cX12_tasteBits 12 = .ok (.iconst 0, 1) := by decide +kernel
theorem dX12_tasteBits_13 : decode cX12_tasteBits 13 = .ok (.invokevirtual 424, 3) := by decide +kernel
theorem dX12_tasteBits_16 : decode cX12_tasteBits 16 = .ok (.aload_n 0, 1) := by decide +kernel
theorem dX12_tasteBits_17 : decode cX12_tasteBits 17 = .ok (.getfield 180, 3) := by decide +kernel
theorem dX12_tasteBits_20 : decode cX12_tasteBits 20 = .ok (.iconst 3, 1) := by decide +kernel
theorem dX12_tasteBits_21 : decode cX12_tasteBits 21 = .ok (.iload_n 1, 1) := by decide +kernel
theorem dX12_tasteBits_22 : decode cX12_tasteBits 22 = .ok (.imul, 1) := by decide +kernel
theorem dX12_tasteBits_23 : decode cX12_tasteBits 23 = .ok (.iload_n 3, 1) := by decide +kernel
theorem dX12_tasteBits_24 : decode cX12_tasteBits 24 = .ok (.iastore, 1) := by decide +kernel
theorem dX12_tasteBits_25 : decode cX12_tasteBits 25 = .ok (.iconst 0, 1) := by decide +kernel
theorem dX12_tasteBits_26 : decode cX12_tasteBits 26 = .ok (.istore 4, 2) := by decide +kernel
theorem dX12_tasteBits_28 : decode cX12_tasteBits 28 = .ok (.iconst 0, 1) := by decide +kernel
theorem dX12_tasteBits_29 : decode cX12_tasteBits 29 = .ok (.istore 5, 2) := by decide +kernel
theorem dX12_tasteBits_31 : decode cX12_tasteBits 31 = .ok (.aload_n 0, 1) := by decide +kernel
theorem dX12_tasteBits_32 : decode cX12_tasteBits 32 = .ok (.iload 5, 2) := by decide +kernel
theorem dX12_tasteBits_34 : decode cX12_tasteBits 34 = .ok (.iconst 0, 1) := by decide +kernel
theorem dX12_tasteBits_35 : decode cX12_tasteBits 35 = .ok (.bipush 30, 2) := by decide +kernel
theorem dX12_tasteBits_37 : decode cX12_tasteBits 37 = .ok (.invokevirtual 529, 3) := by decide +kernel
theorem dX12_tasteBits_40 : decode cX12_tasteBits 40 = .ok (.ifCond .eq 132, 3) := by decide +kernel
theorem dX12_tasteBits_43 : decode cX12_tasteBits 43 = .ok (.iconst 0, 1) := by decide +kernel
theorem dX12_tasteBits_44 : decode cX12_tasteBits 44 = .ok (.istore 6, 2) := by decide +kernel
theorem dX12_tasteBits_46 : decode cX12_tasteBits 46 = .ok (.iload 6, 2) := by decide +kernel
theorem dX12_tasteBits_48 : decode cX12_tasteBits 48 = .ok (.aload_n 0, 1) := by decide +kernel
theorem dX12_tasteBits_49 : decode cX12_tasteBits 49 = .ok (.getfield 72, 3) := by decide +kernel
theorem dX12_tasteBits_52 : decode cX12_tasteBits 52 = .ok (.aload_n 0, 1) := by decide +kernel
theorem dX12_tasteBits_53 : decode cX12_tasteBits 53 = .ok (.getfield 51, 3) := by decide +kernel
theorem dX12_tasteBits_56 : decode cX12_tasteBits 56 = .ok (.iaload, 1) := by decide +kernel
theorem dX12_tasteBits_57 : decode cX12_tasteBits 57 = .ok (.if_icmp .ge 37, 3) := by decide +kernel
theorem dX12_tasteBits_60 : decode cX12_tasteBits 60 = .ok (.aload_n 0, 1) := by decide +kernel
theorem dX12_tasteBits_61 : decode cX12_tasteBits 61 = .ok (.getfield 213, 3) := by decide +kernel
theorem dX12_tasteBits_64 : decode cX12_tasteBits 64 = .ok (.bipush 6, 2) := by decide +kernel
theorem dX12_tasteBits_66 : decode cX12_tasteBits 66 = .ok (.bipush 31, 2) := by decide +kernel
theorem dX12_tasteBits_68 : decode cX12_tasteBits 68 = .ok (.iload_n 3, 1) := by decide +kernel
theorem dX12_tasteBits_69 : decode cX12_tasteBits 69 = .ok (.imul, 1) := by decide +kernel
theorem dX12_tasteBits_70 : decode cX12_tasteBits 70 = .ok (.iload 5, 2) := by decide +kernel
theorem dX12_tasteBits_72 : decode cX12_tasteBits 72 = .ok (.iadd, 1) := by decide +kernel
theorem dX12_tasteBits_73 : decode cX12_tasteBits 73 = .ok (.imul, 1) := by decide +kernel
theorem dX12_tasteBits_74 : decode cX12_tasteBits 74 = .ok (.iload 6, 2) := by decide +kernel
theorem dX12_tasteBits_76 : decode cX12_tasteBits 76 = .ok (.iadd, 1) := by decide +kernel
theorem dX12_tasteBits_77 : decode cX12_tasteBits 77 = .ok (.aload_n 0, 1) := by decide +kernel
theorem dX12_tasteBits_78 : decode cX12_tasteBits 78 = .ok (.getfield 162, 3) := by decide +kernel
theorem dX12_tasteBits_81 : decode cX12_tasteBits 81 = .ok (.bipush 6, 2) := by decide +kernel
theorem dX12_tasteBits_83 : decode cX12_tasteBits 83 = .ok (.iload 6, 2) := by decide +kernel
theorem dX12_tasteBits_85 : decode cX12_tasteBits 85 = .ok (.iadd, 1) := by decide +kernel
theorem dX12_tasteBits_86 : decode cX12_tasteBits 86 = .ok (.iaload, 1) := by decide +kernel
theorem dX12_tasteBits_87 : decode cX12_tasteBits 87 = .ok (.iastore, 1) := by decide +kernel
theorem dX12_tasteBits_88 : decode cX12_tasteBits 88 = .ok (.iinc 6 1, 3) := by decide +kernel
theorem dX12_tasteBits_91 : decode cX12_tasteBits 91 = .ok (.goto (-45), 3) := by decide +kernel
theorem dX12_tasteBits_94 : decode cX12_tasteBits 94 = .ok (.iconst 0, 1) := by decide +kernel
theorem dX12_tasteBits_95 : decode cX12_tasteBits 95 = .ok (.istore 6, 2) := by decide +kernel
theorem dX12_tasteBits_97 : decode cX12_tasteBits 97 = .ok (.iload 6, 2) := by decide +kernel
theorem dX12_tasteBits_99 : decode cX12_tasteBits 99 = .ok (.aload_n 0, 1) := by decide +kernel
theorem dX12_tasteBits_100 : decode cX12_tasteBits 100 = .ok (.getfield 201, 3) := by decide +kernel
theorem dX12_tasteBits_103 : decode cX12_tasteBits 103 = .ok (.if_icmp .ge 56, 3) := by decide +kernel
theorem dX12_tasteBits_106 : decode cX12_tasteBits 106 = .ok (.iload 4, 2) := by decide +kernel
theorem dX12_tasteBits_108 : decode cX12_tasteBits 108 = .ok (.aload_n 0, 1) := by decide +kernel
theorem dX12_tasteBits_109 : decode cX12_tasteBits 109 = .ok (.getfield 204, 3) := by decide +kernel
theorem dX12_tasteBits_112 : decode cX12_tasteBits 112 = .ok (.iload 6, 2) := by decide +kernel
theorem dX12_tasteBits_114 : decode cX12_tasteBits 114 = .ok (.iaload, 1) := by decide +kernel
theorem dX12_tasteBits_115 : decode cX12_tasteBits 115 = .ok (.iload 5, 2) := by decide +kernel
theorem dX12_tasteBits_117 : decode cX12_tasteBits 117 = .ok (.if_icmp .ne 32, 3) := by decide +kernel
theorem dX12_tasteBits_120 : decode cX12_tasteBits 120 = .ok (.aload_n 0, 1) := by decide +kernel
theorem dX12_tasteBits_121 : decode cX12_tasteBits 121 = .ok (.getfield 162, 3) := by decide +kernel
theorem dX12_tasteBits_124 : decode cX12_tasteBits 124 = .ok (.bipush 6, 2) := by decide +kernel
theorem dX12_tasteBits_126 : decode cX12_tasteBits 126 = .ok (.aload_n 0, 1) := by decide +kernel
theorem dX12_tasteBits_127 : decode cX12_tasteBits 127 = .ok (.getfield 207, 3) := by decide +kernel
theorem dX12_tasteBits_130 : decode cX12_tasteBits 130 = .ok (.iload 6, 2) := by decide +kernel
theorem dX12_tasteBits_132 : decode cX12_tasteBits 132 = .ok (.iaload, 1) := by decide +kernel
theorem dX12_tasteBits_133 : decode cX12_tasteBits 133 = .ok (.iadd, 1) := by decide +kernel
theorem dX12_tasteBits_134 : decode cX12_tasteBits 134 = .ok (.iaload, 1) := by decide +kernel
theorem dX12_tasteBits_135 : decode cX12_tasteBits 135 = .ok (.aload_n 0, 1) := by decide +kernel
theorem dX12_tasteBits_136 : decode cX12_tasteBits 136 = .ok (.getfield 210, 3) := by decide +kernel
theorem dX12_tasteBits_139 : decode cX12_tasteBits 139 = .ok (.iload 6, 2) := by decide +kernel
theorem dX12_tasteBits_141 : decode cX12_tasteBits 141 = .ok (.iaload, 1) := by decide +kernel
theorem dX12_tasteBits_142 : decode cX12_tasteBits 142 = .ok (.if_icmp .ne 7, 3) := by decide +kernel
theorem dX12_tasteBits_145 : decode cX12_tasteBits 145 = .ok (.iconst 1, 1) := by decide +kernel
theorem dX12_tasteBits_146 : decode cX12_tasteBits 146 = .ok (.goto 4, 3) := by decide +kernel
theorem dX12_tasteBits_149 : decode cX12_tasteBits 149 = .ok (.iconst 0, 1) := by decide +kernel
theorem dX12_tasteBits_150 : decode cX12_tasteBits 150 = .ok (.iadd, 1) := by decide +kernel
theorem dX12_tasteBits_151 : decode cX12_tasteBits 151 = .ok (.istore 4, 2) := by decide +kernel
theorem dX12_tasteBits_153 : decode cX12_tasteBits 153 = .ok (.iinc 6 1, 3) := by decide +kernel
theorem dX12_tasteBits_156 : decode cX12_tasteBits 156 = .ok (.goto (-59), 3) := by decide +kernel
theorem dX12_tasteBits_159 : decode cX12_tasteBits 159 = .ok (.aload_n 0, 1) := by decide +kernel
theorem dX12_tasteBits_160 : decode cX12_tasteBits 160 = .ok (.iconst 1, 1) := by decide +kernel
theorem dX12_tasteBits_161 : decode cX12_tasteBits 161 = .ok (.iconst (-1), 1) := by decide +kernel
theorem dX12_tasteBits_162 : decode cX12_tasteBits 162 = .ok (.invokevirtual 526, 3) := by decide +kernel
theorem dX12_tasteBits_165 : decode cX12_tasteBits 165 = .ok (.pop, 1) := by decide +kernel
theorem dX12_tasteBits_166 : decode cX12_tasteBits 166 = .ok (.iinc 5 1, 3) := by decide +kernel
theorem dX12_tasteBits_169 : decode cX12_tasteBits 169 = .ok (.goto (-138), 3) := by decide +kernel
theorem dX12_tasteBits_172 : decode cX12_tasteBits 172 = .ok (.iload_n 2, 1) := by decide +kernel
theorem dX12_tasteBits_173 : decode cX12_tasteBits 173 = .ok (.iload 4, 2) := by decide +kernel
theorem dX12_tasteBits_175 : decode cX12_tasteBits 175 = .ok (.aload_n 0, 1) := by decide +kernel
theorem dX12_tasteBits_176 : decode cX12_tasteBits 176 = .ok (.getfield 201, 3) := by decide +kernel
theorem dX12_tasteBits_179 : decode cX12_tasteBits 179 = .ok (.if_icmp .ne 9, 3) := by decide +kernel
theorem dX12_tasteBits_182 : decode cX12_tasteBits 182 = .ok (.iconst 1, 1) := by decide +kernel
theorem dX12_tasteBits_183 : decode cX12_tasteBits 183 = .ok (.iload_n 3, 1) := by decide +kernel
theorem dX12_tasteBits_184 : decode cX12_tasteBits 184 = .ok (.ishl, 1) := by decide +kernel
theorem dX12_tasteBits_185 : decode cX12_tasteBits 185 = .ok (.goto 4, 3) := by decide +kernel
theorem dX12_tasteBits_188 : decode cX12_tasteBits 188 = .ok (.iconst 0, 1) := by decide +kernel
theorem dX12_tasteBits_189 : decode cX12_tasteBits 189 = .ok (.ior, 1) := by decide +kernel
theorem dX12_tasteBits_190 : decode cX12_tasteBits 190 = .ok (.istore_n 2, 1) := by decide +kernel
theorem dX12_tasteBits_191 : decode cX12_tasteBits 191 = .ok (.iinc 3 1, 3) := by decide +kernel
theorem dX12_tasteBits_194 : decode cX12_tasteBits 194 = .ok (.goto (-190), 3) := by decide +kernel
theorem dX12_tasteBits_197 : decode cX12_tasteBits 197 = .ok (.aload_n 0, 1) := by decide +kernel
theorem dX12_tasteBits_198 : decode cX12_tasteBits 198 = .ok (.getfield 180, 3) := by decide +kernel
theorem dX12_tasteBits_201 : decode cX12_tasteBits 201 = .ok (.iconst 3, 1) := by decide +kernel
theorem dX12_tasteBits_202 : decode cX12_tasteBits 202 = .ok (.iload_n 1, 1) := by decide +kernel
theorem dX12_tasteBits_203 : decode cX12_tasteBits 203 = .ok (.imul, 1) := by decide +kernel
theorem dX12_tasteBits_204 : decode cX12_tasteBits 204 = .ok (.aload_n 0, 1) := by decide +kernel
theorem dX12_tasteBits_205 : decode cX12_tasteBits 205 = .ok (.getfield 57, 3) := by decide +kernel
theorem dX12_tasteBits_208 : decode cX12_tasteBits 208 = .ok (.bipush 18, 2) := by decide +kernel
theorem dX12_tasteBits_210 : decode cX12_tasteBits 210 = .ok (.aload_n 0, 1) := by decide +kernel
theorem dX12_tasteBits_211 : decode cX12_tasteBits 211 = .ok (.getfield 51, 3) := by decide +kernel
theorem dX12_tasteBits_214 : decode cX12_tasteBits 214 = .ok (.imul, 1) := by decide +kernel
theorem dX12_tasteBits_215 : decode cX12_tasteBits 215 = .ok (.iconst 3, 1) := by decide +kernel
theorem dX12_tasteBits_216 : decode cX12_tasteBits 216 = .ok (.iload_n 1, 1) := by decide +kernel
theorem dX12_tasteBits_217 : decode cX12_tasteBits 217 = .ok (.imul, 1) := by decide +kernel
theorem dX12_tasteBits_218 : decode cX12_tasteBits 218 = .ok (.iadd, 1) := by decide +kernel
theorem dX12_tasteBits_219 : decode cX12_tasteBits 219 = .ok (.iaload, 1) := by decide +kernel
theorem dX12_tasteBits_220 : decode cX12_tasteBits 220 = .ok (.iastore, 1) := by decide +kernel
theorem dX12_tasteBits_221 : decode cX12_tasteBits 221 = .ok (.iload_n 2, 1) := by decide +kernel
theorem dX12_tasteBits_222 : decode cX12_tasteBits 222 = .ok (.ireturn, 1) := by decide +kernel
theorem dX12_tastes_0 : decode cX12_tastes 0 = .ok (.aload_n 0, 1) := by decide +kernel
theorem dX12_tastes_1 : decode cX12_tastes 1 = .ok (.iload_n 1, 1) := by decide +kernel
theorem dX12_tastes_2 : decode cX12_tastes 2 = .ok (.invokevirtual 507, 3) := by decide +kernel
theorem dX12_tastes_5 : decode cX12_tastes 5 = .ok (.ifCond .eq 11, 3) := by decide +kernel
theorem dX12_tastes_8 : decode cX12_tastes 8 = .ok (.aload_n 0, 1) := by decide +kernel
theorem dX12_tastes_9 : decode cX12_tastes 9 = .ok (.iload_n 1, 1) := by decide +kernel
theorem dX12_tastes_10 : decode cX12_tastes 10 = .ok (.invokevirtual 547, 3) := by decide +kernel
theorem dX12_tastes_13 : decode cX12_tastes 13 = .ok (.goto 4, 3) := by decide +kernel
theorem dX12_tastes_16 : decode cX12_tastes 16 = .ok (.iconst (-1), 1) := by decide +kernel
theorem dX12_tastes_17 : decode cX12_tastes 17 = .ok (.ireturn, 1) := by decide +kernel
theorem dX12_mostBy_0 : decode cX12_mostBy 0 = .ok (.iconst 0, 1) := by decide +kernel
theorem dX12_mostBy_1 : decode cX12_mostBy 1 = .ok (.istore 4, 2) := by decide +kernel
theorem dX12_mostBy_3 : decode cX12_mostBy 3 = .ok (.iconst 0, 1) := by decide +kernel
theorem dX12_mostBy_4 : decode cX12_mostBy 4 = .ok (.istore 5, 2) := by decide +kernel
theorem dX12_mostBy_6 : decode cX12_mostBy 6 = .ok (.iload 5, 2) := by decide +kernel
theorem dX12_mostBy_8 : decode cX12_mostBy 8 = .ok (.bipush 9, 2) := by decide +kernel
theorem dX12_mostBy_10 : decode cX12_mostBy 10 = .ok (.if_icmp .gt 109, 3) := by decide +kernel
theorem dX12_mostBy_13 : decode cX12_mostBy 13 = .ok (.iconst 0, 1) := by decide +kernel
theorem dX12_mostBy_14 : decode cX12_mostBy 14 = .ok (.istore 6, 2) := by decide +kernel
theorem dX12_mostBy_16 : decode cX12_mostBy 16 = .ok (.iconst 0, 1) := by decide +kernel
theorem dX12_mostBy_17 : decode cX12_mostBy 17 = .ok (.istore 7, 2) := by decide +kernel
theorem dX12_mostBy_19 : decode cX12_mostBy 19 = .ok (.iload 7, 2) := by decide +kernel
theorem dX12_mostBy_21 : decode cX12_mostBy 21 = .ok (.bipush 9, 2) := by decide +kernel
theorem dX12_mostBy_23 : decode cX12_mostBy 23 = .ok (.if_icmp .gt 74, 3) := by decide +kernel
theorem dX12_mostBy_26 : decode cX12_mostBy 26 = .ok (.iload 6, 2) := by decide +kernel
theorem dX12_mostBy_28 : decode cX12_mostBy 28 = .ok (.iload_n 1, 1) := by decide +kernel
theorem dX12_mostBy_29 : decode cX12_mostBy 29 = .ok (.iload 5, 2) := by decide +kernel
theorem dX12_mostBy_31 : decode cX12_mostBy 31 = .ok (.invokestatic 351, 3) := by decide +kernel
theorem dX12_mostBy_34 : decode cX12_mostBy 34 = .ok (.ifCond .eq 53, 3) := by decide +kernel
theorem dX12_mostBy_37 : decode cX12_mostBy 37 = .ok (.iload_n 1, 1) := by decide +kernel
theorem dX12_mostBy_38 : decode cX12_mostBy 38 = .ok (.iload 7, 2) := by decide +kernel
theorem dX12_mostBy_40 : decode cX12_mostBy 40 = .ok (.invokestatic 351, 3) := by decide +kernel
theorem dX12_mostBy_43 : decode cX12_mostBy 43 = .ok (.ifCond .eq 44, 3) := by decide +kernel
theorem dX12_mostBy_46 : decode cX12_mostBy 46 = .ok (.aload_n 0, 1) := by decide +kernel
theorem dX12_mostBy_47 : decode cX12_mostBy 47 = .ok (.getfield 213, 3) := by decide +kernel
theorem dX12_mostBy_50 : decode cX12_mostBy 50 = .ok (.bipush 6, 2) := by decide +kernel
theorem dX12_mostBy_52 : decode cX12_mostBy 52 = .ok (.bipush 31, 2) := by decide +kernel
theorem dX12_mostBy_54 : decode cX12_mostBy 54 = .ok (.iload 5, 2) := by decide +kernel
theorem dX12_mostBy_56 : decode cX12_mostBy 56 = .ok (.imul, 1) := by decide +kernel
theorem dX12_mostBy_57 : decode cX12_mostBy 57 = .ok (.iload_n 2, 1) := by decide +kernel
theorem dX12_mostBy_58 : decode cX12_mostBy 58 = .ok (.iadd, 1) := by decide +kernel
theorem dX12_mostBy_59 : decode cX12_mostBy 59 = .ok (.imul, 1) := by decide +kernel
theorem dX12_mostBy_60 : decode cX12_mostBy 60 = .ok (.iload_n 3, 1) := by decide +kernel
theorem dX12_mostBy_61 : decode cX12_mostBy 61 = .ok (.iadd, 1) := by decide +kernel
theorem dX12_mostBy_62 : decode cX12_mostBy 62 = .ok (.iaload, 1) := by decide +kernel
theorem dX12_mostBy_63 : decode cX12_mostBy 63 = .ok (.aload_n 0, 1) := by decide +kernel
theorem dX12_mostBy_64 : decode cX12_mostBy 64 = .ok (.getfield 213, 3) := by decide +kernel
theorem dX12_mostBy_67 : decode cX12_mostBy 67 = .ok (.bipush 6, 2) := by decide +kernel
theorem dX12_mostBy_69 : decode cX12_mostBy 69 = .ok (.bipush 31, 2) := by decide +kernel
theorem dX12_mostBy_71 : decode cX12_mostBy 71 = .ok (.iload 7, 2) := by decide +kernel
theorem dX12_mostBy_73 : decode cX12_mostBy 73 = .ok (.imul, 1) := by decide +kernel
theorem dX12_mostBy_74 : decode cX12_mostBy 74 = .ok (.iload_n 2, 1) := by decide +kernel
theorem dX12_mostBy_75 : decode cX12_mostBy 75 = .ok (.iadd, 1) := by decide +kernel
theorem dX12_mostBy_76 : decode cX12_mostBy 76 = .ok (.imul, 1) := by decide +kernel
theorem dX12_mostBy_77 : decode cX12_mostBy 77 = .ok (.iload_n 3, 1) := by decide +kernel
theorem dX12_mostBy_78 : decode cX12_mostBy 78 = .ok (.iadd, 1) := by decide +kernel
theorem dX12_mostBy_79 : decode cX12_mostBy 79 = .ok (.iaload, 1) := by decide +kernel
theorem dX12_mostBy_80 : decode cX12_mostBy 80 = .ok (.if_icmp .ne 7, 3) := by decide +kernel
theorem dX12_mostBy_83 : decode cX12_mostBy 83 = .ok (.iconst 1, 1) := by decide +kernel
theorem dX12_mostBy_84 : decode cX12_mostBy 84 = .ok (.goto 4, 3) := by decide +kernel
theorem dX12_mostBy_87 : decode cX12_mostBy 87 = .ok (.iconst 0, 1) := by decide +kernel
theorem dX12_mostBy_88 : decode cX12_mostBy 88 = .ok (.iadd, 1) := by decide +kernel
theorem dX12_mostBy_89 : decode cX12_mostBy 89 = .ok (.istore 6, 2) := by decide +kernel
theorem dX12_mostBy_91 : decode cX12_mostBy 91 = .ok (.iinc 7 1, 3) := by decide +kernel
theorem dX12_mostBy_94 : decode cX12_mostBy 94 = .ok (.goto (-75), 3) := by decide +kernel
theorem dX12_mostBy_97 : decode cX12_mostBy 97 = .ok (.iload 6, 2) := by decide +kernel
theorem dX12_mostBy_99 : decode cX12_mostBy 99 = .ok (.iload 4, 2) := by decide +kernel
theorem dX12_mostBy_101 : decode cX12_mostBy 101 = .ok (.if_icmp .le 8, 3) := by decide +kernel
theorem dX12_mostBy_104 : decode cX12_mostBy 104 = .ok (.iload 6, 2) := by decide +kernel
theorem dX12_mostBy_106 : decode cX12_mostBy 106 = .ok (.goto 5, 3) := by decide +kernel
theorem dX12_mostBy_109 : decode cX12_mostBy 109 = .ok (.iload 4, 2) := by decide +kernel
theorem dX12_mostBy_111 : decode cX12_mostBy 111 = .ok (.istore 4, 2) := by decide +kernel
theorem dX12_mostBy_113 : decode cX12_mostBy 113 = .ok (.iinc 5 1, 3) := by decide +kernel
theorem dX12_mostBy_116 : decode cX12_mostBy 116 = .ok (.goto (-110), 3) := by decide +kernel
theorem dX12_mostBy_119 : decode cX12_mostBy 119 = .ok (.iload 4, 2) := by decide +kernel
theorem dX12_mostBy_121 : decode cX12_mostBy 121 = .ok (.ireturn, 1) := by decide +kernel
theorem dX12_tells_0 : decode cX12_tells 0 = .ok (.aload_n 0, 1) := by decide +kernel
theorem dX12_tells_1 : decode cX12_tells 1 = .ok (.iload_n 1, 1) := by decide +kernel
theorem dX12_tells_2 : decode cX12_tells 2 = .ok (.invokevirtual 507, 3) := by decide +kernel
theorem dX12_tells_5 : decode cX12_tells 5 = .ok (.ifCond .eq 12, 3) := by decide +kernel
theorem dX12_tells_8 : decode cX12_tells 8 = .ok (.iload_n 2, 1) := by decide +kernel
theorem dX12_tells_9 : decode cX12_tells 9 = .ok (.iconst 0, 1) := by decide +kernel
theorem dX12_tells_10 : decode cX12_tells 10 = .ok (.iconst 2, 1) := by decide +kernel
theorem dX12_tells_11 : decode cX12_tells 11 = .ok (.invokestatic 309, 3) := by decide +kernel
theorem dX12_tells_14 : decode cX12_tells 14 = .ok (.ifCond .ne 5, 3) := by decide +kernel
theorem dX12_tells_17 : decode cX12_tells 17 = .ok (.iconst (-1), 1) := by decide +kernel
theorem dX12_tells_18 : decode cX12_tells 18 = .ok (.ireturn, 1) := by decide +kernel
theorem dX12_tells_19 : decode cX12_tells 19 = .ok (.aload_n 0, 1) := by decide +kernel
theorem dX12_tells_20 : decode cX12_tells 20 = .ok (.iload_n 1, 1) := by decide +kernel
theorem dX12_tells_21 : decode cX12_tells 21 = .ok (.invokevirtual 547, 3) := by decide +kernel
theorem dX12_tells_24 : decode cX12_tells 24 = .ok (.istore_n 3, 1) := by decide +kernel
theorem dX12_tells_25 : decode cX12_tells 25 = .ok (.iconst (-1), 1) := by decide +kernel
theorem dX12_tells_26 : decode cX12_tells 26 = .ok (.istore 4, 2) := by decide +kernel
theorem dX12_tells_28 : decode cX12_tells 28 = .ok (.ldc_w 550, 3) := by decide +kernel
theorem dX12_tells_31 : decode cX12_tells 31 = .ok (.istore 5, 2) := by decide +kernel
theorem dX12_tells_33 : decode cX12_tells 33 = .ok (.iconst 1, 1) := by decide +kernel
theorem dX12_tells_34 : decode cX12_tells 34 = .ok (.istore 6, 2) := by decide +kernel
theorem dX12_tells_36 : decode cX12_tells 36 = .ok (.aload_n 0, 1) := by decide +kernel
theorem dX12_tells_37 : decode cX12_tells 37 = .ok (.iload 6, 2) := by decide +kernel
theorem dX12_tells_39 : decode cX12_tells 39 = .ok (.iconst 1, 1) := by decide +kernel
theorem dX12_tells_40 : decode cX12_tells 40 = .ok (.bipush 30, 2) := by decide +kernel
theorem dX12_tells_42 : decode cX12_tells 42 = .ok (.invokevirtual 529, 3) := by decide +kernel
theorem dX12_tells_45 : decode cX12_tells 45 = .ok (.ifCond .eq 71, 3) := by decide +kernel
theorem dX12_tells_48 : decode cX12_tells 48 = .ok (.iload_n 3, 1) := by decide +kernel
theorem dX12_tells_49 : decode cX12_tells 49 = .ok (.ifCond .eq 67, 3) := by decide +kernel
theorem dX12_tells_52 : decode cX12_tells 52 = .ok (.iconst 0, 1) := by decide +kernel
theorem dX12_tells_53 : decode cX12_tells 53 = .ok (.istore 7, 2) := by decide +kernel
theorem dX12_tells_55 : decode cX12_tells 55 = .ok (.iload 7, 2) := by decide +kernel
theorem dX12_tells_57 : decode cX12_tells 57 = .ok (.aload_n 0, 1) := by decide +kernel
theorem dX12_tells_58 : decode cX12_tells 58 = .ok (.getfield 72, 3) := by decide +kernel
theorem dX12_tells_61 : decode cX12_tells 61 = .ok (.aload_n 0, 1) := by decide +kernel
theorem dX12_tells_62 : decode cX12_tells 62 = .ok (.getfield 51, 3) := by decide +kernel
theorem dX12_tells_65 : decode cX12_tells 65 = .ok (.iaload, 1) := by decide +kernel
theorem dX12_tells_66 : decode cX12_tells 66 = .ok (.if_icmp .ge 44, 3) := by decide +kernel
theorem dX12_tells_69 : decode cX12_tells 69 = .ok (.aload_n 0, 1) := by decide +kernel
theorem dX12_tells_70 : decode cX12_tells 70 = .ok (.iload_n 3, 1) := by decide +kernel
theorem dX12_tells_71 : decode cX12_tells 71 = .ok (.iload 6, 2) := by decide +kernel
theorem dX12_tells_73 : decode cX12_tells 73 = .ok (.iload 7, 2) := by decide +kernel
theorem dX12_tells_75 : decode cX12_tells 75 = .ok (.invokevirtual 551, 3) := by decide +kernel
theorem dX12_tells_78 : decode cX12_tells 78 = .ok (.istore 8, 2) := by decide +kernel
theorem dX12_tells_80 : decode cX12_tells 80 = .ok (.iload 8, 2) := by decide +kernel
theorem dX12_tells_82 : decode cX12_tells 82 = .ok (.iload 5, 2) := by decide +kernel
theorem dX12_tells_84 : decode cX12_tells 84 = .ok (.if_icmp .lt 6, 3) := by decide +kernel
theorem dX12_tells_87 : decode cX12_tells 87 = .ok (.goto 17, 3) := by decide +kernel
theorem dX12_tells_90 : decode cX12_tells 90 = .ok (.iload 8, 2) := by decide +kernel
theorem dX12_tells_92 : decode cX12_tells 92 = .ok (.istore 5, 2) := by decide +kernel
theorem dX12_tells_94 : decode cX12_tells 94 = .ok (.bipush 6, 2) := by decide +kernel
theorem dX12_tells_96 : decode cX12_tells 96 = .ok (.iload 6, 2) := by decide +kernel
theorem dX12_tells_98 : decode cX12_tells 98 = .ok (.imul, 1) := by decide +kernel
theorem dX12_tells_99 : decode cX12_tells 99 = .ok (.iload 7, 2) := by decide +kernel
theorem dX12_tells_101 : decode cX12_tells 101 = .ok (.iadd, 1) := by decide +kernel
theorem dX12_tells_102 : decode cX12_tells 102 = .ok (.istore 4, 2) := by decide +kernel
theorem dX12_tells_104 : decode cX12_tells 104 = .ok (.iinc 7 1, 3) := by decide +kernel
theorem dX12_tells_107 : decode cX12_tells 107 = .ok (.goto (-52), 3) := by decide +kernel
theorem dX12_tells_110 : decode cX12_tells 110 = .ok (.iinc 6 1, 3) := by decide +kernel
theorem dX12_tells_113 : decode cX12_tells 113 = .ok (.goto (-77), 3) := by decide +kernel
theorem dX12_tells_116 : decode cX12_tells 116 = .ok (.iload 4, 2) := by decide +kernel
theorem dX12_tells_118 : decode cX12_tells 118 = .ok (.iconst (-1), 1) := by decide +kernel
theorem dX12_tells_119 : decode cX12_tells 119 = .ok (.if_icmp .ne 7, 3) := by decide +kernel
theorem dX12_tells_122 : decode cX12_tells 122 = .ok (.iconst (-1), 1) := by decide +kernel
theorem dX12_tells_123 : decode cX12_tells 123 = .ok (.goto 30, 3) := by decide +kernel
theorem dX12_tells_126 : decode cX12_tells 126 = .ok (.iload_n 2, 1) := by decide +kernel
theorem dX12_tells_127 : decode cX12_tells 127 = .ok (.ifCond .ne 11, 3) := by decide +kernel
theorem dX12_tells_130 : decode cX12_tells 130 = .ok (.iload 4, 2) := by decide +kernel
theorem dX12_tells_132 : decode cX12_tells 132 = .ok (.bipush 6, 2) := by decide +kernel
theorem dX12_tells_134 : decode cX12_tells 134 = .ok (.idiv, 1) := by decide +kernel
theorem dX12_tells_135 : decode cX12_tells 135 = .ok (.goto 18, 3) := by decide +kernel
theorem dX12_tells_138 : decode cX12_tells 138 = .ok (.iload_n 2, 1) := by decide +kernel
theorem dX12_tells_139 : decode cX12_tells 139 = .ok (.iconst 1, 1) := by decide +kernel
theorem dX12_tells_140 : decode cX12_tells 140 = .ok (.if_icmp .ne 11, 3) := by decide +kernel
theorem dX12_tells_143 : decode cX12_tells 143 = .ok (.iload 4, 2) := by decide +kernel
theorem dX12_tells_145 : decode cX12_tells 145 = .ok (.bipush 6, 2) := by decide +kernel
theorem dX12_tells_147 : decode cX12_tells 147 = .ok (.irem, 1) := by decide +kernel
theorem dX12_tells_148 : decode cX12_tells 148 = .ok (.goto 5, 3) := by decide +kernel
theorem dX12_tells_151 : decode cX12_tells 151 = .ok (.iload 5, 2) := by decide +kernel
theorem dX12_tells_153 : decode cX12_tells 153 = .ok (.ireturn, 1) := by decide +kernel
theorem dX12_years_0 : decode cX12_years 0 = .ok (.aload_n 0, 1) := by decide +kernel
theorem dX12_years_1 : decode cX12_years 1 = .ok (.iload_n 1, 1) := by decide +kernel
theorem dX12_years_2 : decode cX12_years 2 = .ok (.iconst 1, 1) := by decide +kernel
theorem dX12_years_3 : decode cX12_years 3 = .ok (.bipush 40, 2) := by decide +kernel
theorem dX12_years_5 : decode cX12_years 5 = .ok (.invokevirtual 529, 3) := by decide +kernel
theorem dX12_years_8 : decode cX12_years 8 = .ok (.ifCond .ne 9, 3) := by decide +kernel
theorem dX12_years_11 : decode cX12_years 11 = .ok (.aload_n 0, 1) := by decide +kernel
theorem dX12_years_12 : decode cX12_years 12 = .ok (.iconst 2, 1) := by decide +kernel
theorem dX12_years_13 : decode cX12_years 13 = .ok (.invokevirtual 222, 3) := by decide +kernel
theorem dX12_years_16 : decode cX12_years 16 = .ok (.ireturn, 1) := by decide +kernel
theorem dX12_years_17 : decode cX12_years 17 = .ok (.aload_n 0, 1) := by decide +kernel
theorem dX12_years_18 : decode cX12_years 18 = .ok (.invokevirtual 554, 3) := by decide +kernel
theorem dX12_years_21 : decode cX12_years 21 = .ok (.iconst 0, 1) := by decide +kernel
theorem dX12_years_22 : decode cX12_years 22 = .ok (.istore_n 2, 1) := by decide +kernel
theorem dX12_years_23 : decode cX12_years 23 = .ok (.iconst 0, 1) := by decide +kernel
theorem dX12_years_24 : decode cX12_years 24 = .ok (.istore_n 3, 1) := by decide +kernel
theorem dX12_years_25 : decode cX12_years 25 = .ok (.iload_n 3, 1) := by decide +kernel
theorem dX12_years_26 : decode cX12_years 26 = .ok (.iload_n 1, 1) := by decide +kernel
theorem dX12_years_27 : decode cX12_years 27 = .ok (.if_icmp .ge 26, 3) := by decide +kernel
theorem dX12_years_30 : decode cX12_years 30 = .ok (.iload_n 2, 1) := by decide +kernel
theorem dX12_years_31 : decode cX12_years 31 = .ok (.aload_n 0, 1) := by decide +kernel
theorem dX12_years_32 : decode cX12_years 32 = .ok (.iconst 0, 1) := by decide +kernel
theorem dX12_years_33 : decode cX12_years 33 = .ok (.iconst (-1), 1) := by decide +kernel
theorem dX12_years_34 : decode cX12_years 34 = .ok (.invokevirtual 526, 3) := by decide +kernel
theorem dX12_years_37 : decode cX12_years 37 = .ok (.ifCond .eq 7, 3) := by decide +kernel
theorem dX12_years_40 : decode cX12_years 40 = .ok (.iconst 1, 1) := by decide +kernel
theorem dX12_years_41 : decode cX12_years 41 = .ok (.goto 4, 3) := by decide +kernel
theorem dX12_years_44 : decode cX12_years 44 = .ok (.iconst 0, 1) := by decide +kernel
theorem dX12_years_45 : decode cX12_years 45 = .ok (.iadd, 1) := by decide +kernel
theorem dX12_years_46 : decode cX12_years 46 = .ok (.istore_n 2, 1) := by decide +kernel
theorem dX12_years_47 : decode cX12_years 47 = .ok (.iinc 3 1, 3) := by decide +kernel
theorem dX12_years_50 : decode cX12_years 50 = .ok (.goto (-25), 3) := by decide +kernel
theorem dX12_years_53 : decode cX12_years 53 = .ok (.iload_n 2, 1) := by decide +kernel
theorem dX12_years_54 : decode cX12_years 54 = .ok (.ireturn, 1) := by decide +kernel
theorem dX12_draw_0 : decode cX12_draw 0 = .ok (.aload_n 0, 1) := by decide +kernel
theorem dX12_draw_1 : decode cX12_draw 1 = .ok (.ldc2_w 557, 3) := by decide +kernel
theorem dX12_draw_4 : decode cX12_draw 4 = .ok (.aload_n 0, 1) := by decide +kernel
theorem dX12_draw_5 : decode cX12_draw 5 = .ok (.getfield 177, 3) := by decide +kernel
theorem dX12_draw_8 : decode cX12_draw 8 = .ok (.lmul, 1) := by decide +kernel
theorem dX12_draw_9 : decode cX12_draw 9 = .ok (.ldc2_w 559, 3) := by decide +kernel
theorem dX12_draw_12 : decode cX12_draw 12 = .ok (.ladd, 1) := by decide +kernel
theorem dX12_draw_13 : decode cX12_draw 13 = .ok (.ldc2_w 561, 3) := by decide +kernel
theorem dX12_draw_16 : decode cX12_draw 16 = .ok (.lrem, 1) := by decide +kernel
theorem dX12_draw_17 : decode cX12_draw 17 = .ok (.putfield 177, 3) := by decide +kernel
theorem dX12_draw_20 : decode cX12_draw 20 = .ok (.aload_n 0, 1) := by decide +kernel
theorem dX12_draw_21 : decode cX12_draw 21 = .ok (.getfield 177, 3) := by decide +kernel
theorem dX12_draw_24 : decode cX12_draw 24 = .ok (.ldc2_w 563, 3) := by decide +kernel
theorem dX12_draw_27 : decode cX12_draw 27 = .ok (.ldiv, 1) := by decide +kernel
theorem dX12_draw_28 : decode cX12_draw 28 = .ok (.iload_n 1, 1) := by decide +kernel
theorem dX12_draw_29 : decode cX12_draw 29 = .ok (.i2l, 1) := by decide +kernel
theorem dX12_draw_30 : decode cX12_draw 30 = .ok (.lrem, 1) := by decide +kernel
theorem dX12_draw_31 : decode cX12_draw 31 = .ok (.l2i, 1) := by decide +kernel
theorem dX12_draw_32 : decode cX12_draw 32 = .ok (.ireturn, 1) := by decide +kernel
theorem dX12_chance_0 : decode cX12_chance 0 = .ok (.aload_n 0, 1) := by decide +kernel
theorem dX12_chance_1 : decode cX12_chance 1 = .ok (.iload_n 1, 1) := by decide +kernel
theorem dX12_chance_2 : decode cX12_chance 2 = .ok (.iconst 1, 1) := by decide +kernel
theorem dX12_chance_3 : decode cX12_chance 3 = .ok (.bipush 40, 2) := by decide +kernel
theorem dX12_chance_5 : decode cX12_chance 5 = .ok (.invokevirtual 529, 3) := by decide +kernel
theorem dX12_chance_8 : decode cX12_chance 8 = .ok (.ifCond .ne 9, 3) := by decide +kernel
theorem dX12_chance_11 : decode cX12_chance 11 = .ok (.aload_n 0, 1) := by decide +kernel
theorem dX12_chance_12 : decode cX12_chance 12 = .ok (.iconst 2, 1) := by decide +kernel
theorem dX12_chance_13 : decode cX12_chance 13 = .ok (.invokevirtual 222, 3) := by decide +kernel
theorem dX12_chance_16 : decode cX12_chance 16 = .ok (.ireturn, 1) := by decide +kernel
theorem dX12_chance_17 : decode cX12_chance 17 = .ok (.aload_n 0, 1) := by decide +kernel
theorem dX12_chance_18 : decode cX12_chance 18 = .ok (.invokevirtual 554, 3) := by decide +kernel
theorem dX12_chance_21 : decode cX12_chance 21 = .ok (.iconst 0, 1) := by decide +kernel
theorem dX12_chance_22 : decode cX12_chance 22 = .ok (.istore_n 2, 1) := by decide +kernel
theorem dX12_chance_23 : decode cX12_chance 23 = .ok (.iconst 0, 1) := by decide +kernel
theorem dX12_chance_24 : decode cX12_chance 24 = .ok (.istore_n 3, 1) := by decide +kernel
theorem dX12_chance_25 : decode cX12_chance 25 = .ok (.iload_n 3, 1) := by decide +kernel
theorem dX12_chance_26 : decode cX12_chance 26 = .ok (.iload_n 1, 1) := by decide +kernel
theorem dX12_chance_27 : decode cX12_chance 27 = .ok (.if_icmp .ge 87, 3) := by decide +kernel
theorem dX12_chance_30 : decode cX12_chance 30 = .ok (.aload_n 0, 1) := by decide +kernel
theorem dX12_chance_31 : decode cX12_chance 31 = .ok (.bipush 100, 2) := by decide +kernel
theorem dX12_chance_33 : decode cX12_chance 33 = .ok (.invokevirtual 565, 3) := by decide +kernel
theorem dX12_chance_36 : decode cX12_chance 36 = .ok (.aload_n 0, 1) := by decide +kernel
theorem dX12_chance_37 : decode cX12_chance 37 = .ok (.getfield 87, 3) := by decide +kernel
theorem dX12_chance_40 : decode cX12_chance 40 = .ok (.aload_n 0, 1) := by decide +kernel
theorem dX12_chance_41 : decode cX12_chance 41 = .ok (.getfield 51, 3) := by decide +kernel
theorem dX12_chance_44 : decode cX12_chance 44 = .ok (.iaload, 1) := by decide +kernel
theorem dX12_chance_45 : decode cX12_chance 45 = .ok (.if_icmp .ge 19, 3) := by decide +kernel
theorem dX12_chance_48 : decode cX12_chance 48 = .ok (.aload_n 0, 1) := by decide +kernel
theorem dX12_chance_49 : decode cX12_chance 49 = .ok (.getfield 54, 3) := by decide +kernel
theorem dX12_chance_52 : decode cX12_chance 52 = .ok (.aload_n 0, 1) := by decide +kernel
theorem dX12_chance_53 : decode cX12_chance 53 = .ok (.getfield 51, 3) := by decide +kernel
theorem dX12_chance_56 : decode cX12_chance 56 = .ok (.iaload, 1) := by decide +kernel
theorem dX12_chance_57 : decode cX12_chance 57 = .ok (.ifCond .le 7, 3) := by decide +kernel
theorem dX12_chance_60 : decode cX12_chance 60 = .ok (.iconst 1, 1) := by decide +kernel
theorem dX12_chance_61 : decode cX12_chance 61 = .ok (.goto 4, 3) := by decide +kernel
theorem dX12_chance_64 : decode cX12_chance 64 = .ok (.iconst 0, 1) := by decide +kernel
theorem dX12_chance_65 : decode cX12_chance 65 = .ok (.istore 4, 2) := by decide +kernel
theorem dX12_chance_67 : decode cX12_chance 67 = .ok (.iload_n 2, 1) := by decide +kernel
theorem dX12_chance_68 : decode cX12_chance 68 = .ok (.iload 4, 2) := by decide +kernel
theorem dX12_chance_70 : decode cX12_chance 70 = .ok (.ifCond .eq 7, 3) := by decide +kernel
theorem dX12_chance_73 : decode cX12_chance 73 = .ok (.iconst 1, 1) := by decide +kernel
theorem dX12_chance_74 : decode cX12_chance 74 = .ok (.goto 4, 3) := by decide +kernel
theorem dX12_chance_77 : decode cX12_chance 77 = .ok (.iconst 0, 1) := by decide +kernel
theorem dX12_chance_78 : decode cX12_chance 78 = .ok (.iadd, 1) := by decide +kernel
theorem dX12_chance_79 : decode cX12_chance 79 = .ok (.istore_n 2, 1) := by decide +kernel
theorem dX12_chance_80 : decode cX12_chance 80 = .ok (.aload_n 0, 1) := by decide +kernel
theorem dX12_chance_81 : decode cX12_chance 81 = .ok (.iconst 0, 1) := by decide +kernel
theorem dX12_chance_82 : decode cX12_chance 82 = .ok (.iload 4, 2) := by decide +kernel
theorem dX12_chance_84 : decode cX12_chance 84 = .ok (.ifCond .eq 19, 3) := by decide +kernel
theorem dX12_chance_87 : decode cX12_chance 87 = .ok (.aload_n 0, 1) := by decide +kernel
theorem dX12_chance_88 : decode cX12_chance 88 = .ok (.aload_n 0, 1) := by decide +kernel
theorem dX12_chance_89 : decode cX12_chance 89 = .ok (.getfield 54, 3) := by decide +kernel
theorem dX12_chance_92 : decode cX12_chance 92 = .ok (.aload_n 0, 1) := by decide +kernel
theorem dX12_chance_93 : decode cX12_chance 93 = .ok (.getfield 51, 3) := by decide +kernel
theorem dX12_chance_96 : decode cX12_chance 96 = .ok (.iaload, 1) := by decide +kernel
theorem dX12_chance_97 : decode cX12_chance 97 = .ok (.invokevirtual 565, 3) := by decide +kernel
theorem dX12_chance_100 : decode cX12_chance 100 = .ok (.goto 4, 3) := by decide +kernel
theorem dX12_chance_103 : decode cX12_chance 103 = .ok (.iconst (-1), 1) := by decide +kernel
theorem dX12_chance_104 : decode cX12_chance 104 = .ok (.invokevirtual 526, 3) := by decide +kernel
theorem dX12_chance_107 : decode cX12_chance 107 = .ok (.pop, 1) := by decide +kernel
theorem dX12_chance_108 : decode cX12_chance 108 = .ok (.iinc 3 1, 3) := by decide +kernel
theorem dX12_chance_111 : decode cX12_chance 111 = .ok (.goto (-86), 3) := by decide +kernel
theorem dX12_chance_114 : decode cX12_chance 114 = .ok (.iload_n 2, 1) := by decide +kernel
theorem dX12_chance_115 : decode cX12_chance 115 = .ok (.ireturn, 1) := by decide +kernel
theorem dX12_paint_0 : decode cX12_paint 0 = .ok (.aload_n 0, 1) := by decide +kernel
theorem dX12_paint_1 : decode cX12_paint 1 = .ok (.iload_n 1, 1) := by decide +kernel
theorem dX12_paint_2 : decode cX12_paint 2 = .ok (.invokevirtual 513, 3) := by decide +kernel
theorem dX12_paint_5 : decode cX12_paint 5 = .ok (.ifCond .eq 26, 3) := by decide +kernel
theorem dX12_paint_8 : decode cX12_paint 8 = .ok (.iload_n 2, 1) := by decide +kernel
theorem dX12_paint_9 : decode cX12_paint 9 = .ok (.iconst (-1), 1) := by decide +kernel
theorem dX12_paint_10 : decode cX12_paint 10 = .ok (.if_icmp .eq 11, 3) := by decide +kernel
theorem dX12_paint_13 : decode cX12_paint 13 = .ok (.aload_n 0, 1) := by decide +kernel
theorem dX12_paint_14 : decode cX12_paint 14 = .ok (.iload_n 2, 1) := by decide +kernel
theorem dX12_paint_15 : decode cX12_paint 15 = .ok (.invokevirtual 510, 3) := by decide +kernel
theorem dX12_paint_18 : decode cX12_paint 18 = .ok (.ifCond .eq 13, 3) := by decide +kernel
theorem dX12_paint_21 : decode cX12_paint 21 = .ok (.aload_n 0, 1) := by decide +kernel
theorem dX12_paint_22 : decode cX12_paint 22 = .ok (.getfield 162, 3) := by decide +kernel
theorem dX12_paint_25 : decode cX12_paint 25 = .ok (.iload_n 1, 1) := by decide +kernel
theorem dX12_paint_26 : decode cX12_paint 26 = .ok (.iaload, 1) := by decide +kernel
theorem dX12_paint_27 : decode cX12_paint 27 = .ok (.iload_n 2, 1) := by decide +kernel
theorem dX12_paint_28 : decode cX12_paint 28 = .ok (.if_icmp .ne 17, 3) := by decide +kernel
theorem dX12_paint_31 : decode cX12_paint 31 = .ok (.aload_n 0, 1) := by decide +kernel
theorem dX12_paint_32 : decode cX12_paint 32 = .ok (.iconst 3, 1) := by decide +kernel
theorem dX12_paint_33 : decode cX12_paint 33 = .ok (.invokevirtual 222, 3) := by decide +kernel
theorem dX12_paint_36 : decode cX12_paint 36 = .ok (.ifCond .lt 7, 3) := by decide +kernel
theorem dX12_paint_39 : decode cX12_paint 39 = .ok (.iconst 1, 1) := by decide +kernel
theorem dX12_paint_40 : decode cX12_paint 40 = .ok (.goto 4, 3) := by decide +kernel
theorem dX12_paint_43 : decode cX12_paint 43 = .ok (.iconst 0, 1) := by decide +kernel
theorem dX12_paint_44 : decode cX12_paint 44 = .ok (.ireturn, 1) := by decide +kernel
theorem dX12_paint_45 : decode cX12_paint 45 = .ok (.aload_n 0, 1) := by decide +kernel
theorem dX12_paint_46 : decode cX12_paint 46 = .ok (.invokevirtual 554, 3) := by decide +kernel
theorem dX12_paint_49 : decode cX12_paint 49 = .ok (.aload_n 0, 1) := by decide +kernel
theorem dX12_paint_50 : decode cX12_paint 50 = .ok (.getfield 162, 3) := by decide +kernel
theorem dX12_paint_53 : decode cX12_paint 53 = .ok (.iload_n 1, 1) := by decide +kernel
theorem dX12_paint_54 : decode cX12_paint 54 = .ok (.iload_n 2, 1) := by decide +kernel
theorem dX12_paint_55 : decode cX12_paint 55 = .ok (.iastore, 1) := by decide +kernel
theorem dX12_paint_56 : decode cX12_paint 56 = .ok (.iconst 1, 1) := by decide +kernel
theorem dX12_paint_57 : decode cX12_paint 57 = .ok (.ireturn, 1) := by decide +kernel
theorem dX12_swap_0 : decode cX12_swap 0 = .ok (.aload_n 0, 1) := by decide +kernel
theorem dX12_swap_1 : decode cX12_swap 1 = .ok (.iload_n 1, 1) := by decide +kernel
theorem dX12_swap_2 : decode cX12_swap 2 = .ok (.invokevirtual 507, 3) := by decide +kernel
theorem dX12_swap_5 : decode cX12_swap 5 = .ok (.ifCond .eq 16, 3) := by decide +kernel
theorem dX12_swap_8 : decode cX12_swap 8 = .ok (.aload_n 0, 1) := by decide +kernel
theorem dX12_swap_9 : decode cX12_swap 9 = .ok (.iload_n 2, 1) := by decide +kernel
theorem dX12_swap_10 : decode cX12_swap 10 = .ok (.invokevirtual 507, 3) := by decide +kernel
theorem dX12_swap_13 : decode cX12_swap 13 = .ok (.ifCond .eq 8, 3) := by decide +kernel
theorem dX12_swap_16 : decode cX12_swap 16 = .ok (.iload_n 1, 1) := by decide +kernel
theorem dX12_swap_17 : decode cX12_swap 17 = .ok (.iload_n 2, 1) := by decide +kernel
theorem dX12_swap_18 : decode cX12_swap 18 = .ok (.if_icmp .ne 17, 3) := by decide +kernel
theorem dX12_swap_21 : decode cX12_swap 21 = .ok (.aload_n 0, 1) := by decide +kernel
theorem dX12_swap_22 : decode cX12_swap 22 = .ok (.iconst 3, 1) := by decide +kernel
theorem dX12_swap_23 : decode cX12_swap 23 = .ok (.invokevirtual 222, 3) := by decide +kernel
theorem dX12_swap_26 : decode cX12_swap 26 = .ok (.ifCond .lt 7, 3) := by decide +kernel
theorem dX12_swap_29 : decode cX12_swap 29 = .ok (.iconst 1, 1) := by decide +kernel
theorem dX12_swap_30 : decode cX12_swap 30 = .ok (.goto 4, 3) := by decide +kernel
theorem dX12_swap_33 : decode cX12_swap 33 = .ok (.iconst 0, 1) := by decide +kernel
theorem dX12_swap_34 : decode cX12_swap 34 = .ok (.ireturn, 1) := by decide +kernel
theorem dX12_swap_35 : decode cX12_swap 35 = .ok (.aload_n 0, 1) := by decide +kernel
theorem dX12_swap_36 : decode cX12_swap 36 = .ok (.invokevirtual 554, 3) := by decide +kernel
theorem dX12_swap_39 : decode cX12_swap 39 = .ok (.aload_n 0, 1) := by decide +kernel
theorem dX12_swap_40 : decode cX12_swap 40 = .ok (.getfield 156, 3) := by decide +kernel
theorem dX12_swap_43 : decode cX12_swap 43 = .ok (.iload_n 1, 1) := by decide +kernel
theorem dX12_swap_44 : decode cX12_swap 44 = .ok (.iaload, 1) := by decide +kernel
theorem dX12_swap_45 : decode cX12_swap 45 = .ok (.istore_n 3, 1) := by decide +kernel
theorem dX12_swap_46 : decode cX12_swap 46 = .ok (.aload_n 0, 1) := by decide +kernel
theorem dX12_swap_47 : decode cX12_swap 47 = .ok (.getfield 156, 3) := by decide +kernel
theorem dX12_swap_50 : decode cX12_swap 50 = .ok (.iload_n 1, 1) := by decide +kernel
theorem dX12_swap_51 : decode cX12_swap 51 = .ok (.aload_n 0, 1) := by decide +kernel
theorem dX12_swap_52 : decode cX12_swap 52 = .ok (.getfield 156, 3) := by decide +kernel
theorem dX12_swap_55 : decode cX12_swap 55 = .ok (.iload_n 2, 1) := by decide +kernel
theorem dX12_swap_56 : decode cX12_swap 56 = .ok (.iaload, 1) := by decide +kernel
theorem dX12_swap_57 : decode cX12_swap 57 = .ok (.iastore, 1) := by decide +kernel
theorem dX12_swap_58 : decode cX12_swap 58 = .ok (.aload_n 0, 1) := by decide +kernel
theorem dX12_swap_59 : decode cX12_swap 59 = .ok (.getfield 156, 3) := by decide +kernel
theorem dX12_swap_62 : decode cX12_swap 62 = .ok (.iload_n 2, 1) := by decide +kernel
theorem dX12_swap_63 : decode cX12_swap 63 = .ok (.iload_n 3, 1) := by decide +kernel
theorem dX12_swap_64 : decode cX12_swap 64 = .ok (.iastore, 1) := by decide +kernel
theorem dX12_swap_65 : decode cX12_swap 65 = .ok (.iconst 1, 1) := by decide +kernel
theorem dX12_swap_66 : decode cX12_swap 66 = .ok (.ireturn, 1) := by decide +kernel
theorem dX12_fill_0 : decode cX12_fill 0 = .ok (.iload_n 1, 1) := by decide +kernel
theorem dX12_fill_1 : decode cX12_fill 1 = .ok (.iconst 0, 1) := by decide +kernel
theorem dX12_fill_2 : decode cX12_fill 2 = .ok (.sipush 9999, 3) := by decide +kernel
theorem dX12_fill_5 : decode cX12_fill 5 = .ok (.invokestatic 309, 3) := by decide +kernel
theorem dX12_fill_8 : decode cX12_fill 8 = .ok (.ifCond .eq 13, 3) := by decide +kernel
theorem dX12_fill_11 : decode cX12_fill 11 = .ok (.aload_n 0, 1) := by decide +kernel
theorem dX12_fill_12 : decode cX12_fill 12 = .ok (.getfield 153, 3) := by decide +kernel
theorem dX12_fill_15 : decode cX12_fill 15 = .ok (.iconst 0, 1) := by decide +kernel
theorem dX12_fill_16 : decode cX12_fill 16 = .ok (.iaload, 1) := by decide +kernel
theorem dX12_fill_17 : decode cX12_fill 17 = .ok (.iload_n 1, 1) := by decide +kernel
theorem dX12_fill_18 : decode cX12_fill 18 = .ok (.if_icmp .ne 17, 3) := by decide +kernel
theorem dX12_fill_21 : decode cX12_fill 21 = .ok (.aload_n 0, 1) := by decide +kernel
theorem dX12_fill_22 : decode cX12_fill 22 = .ok (.iconst 3, 1) := by decide +kernel
theorem dX12_fill_23 : decode cX12_fill 23 = .ok (.invokevirtual 222, 3) := by decide +kernel
theorem dX12_fill_26 : decode cX12_fill 26 = .ok (.ifCond .lt 7, 3) := by decide +kernel
theorem dX12_fill_29 : decode cX12_fill 29 = .ok (.iconst 1, 1) := by decide +kernel
theorem dX12_fill_30 : decode cX12_fill 30 = .ok (.goto 4, 3) := by decide +kernel
theorem dX12_fill_33 : decode cX12_fill 33 = .ok (.iconst 0, 1) := by decide +kernel
theorem dX12_fill_34 : decode cX12_fill 34 = .ok (.ireturn, 1) := by decide +kernel
theorem dX12_fill_35 : decode cX12_fill 35 = .ok (.aload_n 0, 1) := by decide +kernel
theorem dX12_fill_36 : decode cX12_fill 36 = .ok (.invokevirtual 554, 3) := by decide +kernel
theorem dX12_fill_39 : decode cX12_fill 39 = .ok (.aload_n 0, 1) := by decide +kernel
theorem dX12_fill_40 : decode cX12_fill 40 = .ok (.getfield 153, 3) := by decide +kernel
theorem dX12_fill_43 : decode cX12_fill 43 = .ok (.iconst 0, 1) := by decide +kernel
theorem dX12_fill_44 : decode cX12_fill 44 = .ok (.iload_n 1, 1) := by decide +kernel
theorem dX12_fill_45 : decode cX12_fill 45 = .ok (.iastore, 1) := by decide +kernel
theorem dX12_fill_46 : decode cX12_fill 46 = .ok (.iconst 1, 1) := by decide +kernel
theorem dX12_fill_47 : decode cX12_fill 47 = .ok (.ireturn, 1) := by decide +kernel
theorem dX12_seed_0 : decode cX12_seed 0 = .ok (.iload_n 1, 1) := by decide +kernel
theorem dX12_seed_1 : decode cX12_seed 1 = .ok (.ifCond .ge 17, 3) := by decide +kernel
theorem dX12_seed_4 : decode cX12_seed 4 = .ok (.aload_n 0, 1) := by decide +kernel
theorem dX12_seed_5 : decode cX12_seed 5 = .ok (.iconst 5, 1) := by decide +kernel
theorem dX12_seed_6 : decode cX12_seed 6 = .ok (.invokevirtual 222, 3) := by decide +kernel
theorem dX12_seed_9 : decode cX12_seed 9 = .ok (.ifCond .lt 7, 3) := by decide +kernel
theorem dX12_seed_12 : decode cX12_seed 12 = .ok (.iconst 1, 1) := by decide +kernel
theorem dX12_seed_13 : decode cX12_seed 13 = .ok (.goto 4, 3) := by decide +kernel
theorem dX12_seed_16 : decode cX12_seed 16 = .ok (.iconst 0, 1) := by decide +kernel
theorem dX12_seed_17 : decode cX12_seed 17 = .ok (.ireturn, 1) := by decide +kernel
theorem dX12_seed_18 : decode cX12_seed 18 = .ok (.aload_n 0, 1) := by decide +kernel
theorem dX12_seed_19 : decode cX12_seed 19 = .ok (.iload_n 1, 1) := by decide +kernel
theorem dX12_seed_20 : decode cX12_seed 20 = .ok (.i2l, 1) := by decide +kernel
theorem dX12_seed_21 : decode cX12_seed 21 = .ok (.putfield 177, 3) := by decide +kernel
theorem dX12_seed_24 : decode cX12_seed 24 = .ok (.iconst 1, 1) := by decide +kernel
theorem dX12_seed_25 : decode cX12_seed 25 = .ok (.ireturn, 1) := by decide +kernel
theorem dX12_kept_0 : decode cX12_kept 0 = .ok (.iload_n 1, 1) := by decide +kernel
theorem dX12_kept_1 : decode cX12_kept 1 = .ok (.iconst 0, 1) := by decide +kernel
theorem dX12_kept_2 : decode cX12_kept 2 = .ok (.aload_n 0, 1) := by decide +kernel
theorem dX12_kept_3 : decode cX12_kept 3 = .ok (.getfield 165, 3) := by decide +kernel
theorem dX12_kept_6 : decode cX12_kept 6 = .ok (.iconst 0, 1) := by decide +kernel
theorem dX12_kept_7 : decode cX12_kept 7 = .ok (.iaload, 1) := by decide +kernel
theorem dX12_kept_8 : decode cX12_kept 8 = .ok (.iconst 1, 1) := by decide +kernel
theorem dX12_kept_9 : decode cX12_kept 9 = .ok (.isub, 1) := by decide +kernel
theorem dX12_kept_10 : decode cX12_kept 10 = .ok (.invokestatic 309, 3) := by decide +kernel
theorem dX12_kept_13 : decode cX12_kept 13 = .ok (.ifCond .eq 25, 3) := by decide +kernel
theorem dX12_kept_16 : decode cX12_kept 16 = .ok (.iload_n 2, 1) := by decide +kernel
theorem dX12_kept_17 : decode cX12_kept 17 = .ok (.iconst 0, 1) := by decide +kernel
theorem dX12_kept_18 : decode cX12_kept 18 = .ok (.iconst 2, 1) := by decide +kernel
theorem dX12_kept_19 : decode cX12_kept 19 = .ok (.invokestatic 309, 3) := by decide +kernel
theorem dX12_kept_22 : decode cX12_kept 22 = .ok (.ifCond .eq 16, 3) := by decide +kernel
theorem dX12_kept_25 : decode cX12_kept 25 = .ok (.aload_n 0, 1) := by decide +kernel
theorem dX12_kept_26 : decode cX12_kept 26 = .ok (.getfield 168, 3) := by decide +kernel
theorem dX12_kept_29 : decode cX12_kept 29 = .ok (.iconst 3, 1) := by decide +kernel
theorem dX12_kept_30 : decode cX12_kept 30 = .ok (.iload_n 1, 1) := by decide +kernel
theorem dX12_kept_31 : decode cX12_kept 31 = .ok (.imul, 1) := by decide +kernel
theorem dX12_kept_32 : decode cX12_kept 32 = .ok (.iload_n 2, 1) := by decide +kernel
theorem dX12_kept_33 : decode cX12_kept 33 = .ok (.iadd, 1) := by decide +kernel
theorem dX12_kept_34 : decode cX12_kept 34 = .ok (.iaload, 1) := by decide +kernel
theorem dX12_kept_35 : decode cX12_kept 35 = .ok (.goto 4, 3) := by decide +kernel
theorem dX12_kept_38 : decode cX12_kept 38 = .ok (.iconst (-1), 1) := by decide +kernel
theorem dX12_kept_39 : decode cX12_kept 39 = .ok (.ireturn, 1) := by decide +kernel
theorem dX12_writes_0 : decode cX12_writes 0 = .ok (.aload_n 0, 1) := by decide +kernel
theorem dX12_writes_1 : decode cX12_writes 1 = .ok (.getfield 216, 3) := by decide +kernel
theorem dX12_writes_4 : decode cX12_writes 4 = .ok (.aload_n 0, 1) := by decide +kernel
theorem dX12_writes_5 : decode cX12_writes 5 = .ok (.getfield 219, 3) := by decide +kernel
theorem dX12_writes_8 : decode cX12_writes 8 = .ok (.iload_n 1, 1) := by decide +kernel
theorem dX12_writes_9 : decode cX12_writes 9 = .ok (.sipush 255, 3) := by decide +kernel
theorem dX12_writes_12 : decode cX12_writes 12 = .ok (.iand, 1) := by decide +kernel
theorem dX12_writes_13 : decode cX12_writes 13 = .ok (.iastore, 1) := by decide +kernel
theorem dX12_writes_14 : decode cX12_writes 14 = .ok (.aload_n 0, 1) := by decide +kernel
theorem dX12_writes_15 : decode cX12_writes 15 = .ok (.dup, 1) := by decide +kernel
theorem dX12_writes_16 : decode cX12_writes 16 = .ok (.getfield 219, 3) := by decide +kernel
theorem dX12_writes_19 : decode cX12_writes 19 = .ok (.iconst 1, 1) := by decide +kernel
theorem dX12_writes_20 : decode cX12_writes 20 = .ok (.iadd, 1) := by decide +kernel
theorem dX12_writes_21 : decode cX12_writes 21 = .ok (.putfield 219, 3) := by decide +kernel
theorem dX12_writes_24 : decode cX12_writes 24 = .ok (.return_, 1) := by decide +kernel
theorem dX12_image_0 : decode cX12_image 0 = .ok (.aload_n 0, 1) := by decide +kernel
theorem dX12_image_1 : decode cX12_image 1 = .ok (.iconst 0, 1) := by decide +kernel
theorem dX12_image_2 : decode cX12_image 2 = .ok (.putfield 219, 3) := by decide +kernel
theorem dX12_image_5 : decode cX12_image 5 = .ok (.aload_n 0, 1) := by decide +kernel
theorem dX12_image_6 : decode cX12_image 6 = .ok (.aload_n 0, 1) := by decide +kernel
theorem dX12_image_7 : decode cX12_image 7 = .ok (.getfield 150, 3) := by decide +kernel
theorem dX12_image_10 : decode cX12_image 10 = .ok (.iconst 0, 1) := by decide +kernel
theorem dX12_image_11 : decode cX12_image 11 = .ok (.iaload, 1) := by decide +kernel
theorem dX12_image_12 : decode cX12_image 12 = .ok (.bipush 8, 2) := by decide +kernel
theorem dX12_image_14 : decode cX12_image 14 = .ok (.ishr, 1) := by decide +kernel
theorem dX12_image_15 : decode cX12_image 15 = .ok (.invokevirtual 568, 3) := by decide +kernel
theorem dX12_image_18 : decode cX12_image 18 = .ok (.aload_n 0, 1) := by decide +kernel
theorem dX12_image_19 : decode cX12_image 19 = .ok (.aload_n 0, 1) := by decide +kernel
theorem dX12_image_20 : decode cX12_image 20 = .ok (.getfield 150, 3) := by decide +kernel
theorem dX12_image_23 : decode cX12_image 23 = .ok (.iconst 0, 1) := by decide +kernel
theorem dX12_image_24 : decode cX12_image 24 = .ok (.iaload, 1) := by decide +kernel
theorem dX12_image_25 : decode cX12_image 25 = .ok (.invokevirtual 568, 3) := by decide +kernel
theorem dX12_image_28 : decode cX12_image 28 = .ok (.aload_n 0, 1) := by decide +kernel
theorem dX12_image_29 : decode cX12_image 29 = .ok (.aload_n 0, 1) := by decide +kernel
theorem dX12_image_30 : decode cX12_image 30 = .ok (.getfield 153, 3) := by decide +kernel
theorem dX12_image_33 : decode cX12_image 33 = .ok (.iconst 0, 1) := by decide +kernel
theorem dX12_image_34 : decode cX12_image 34 = .ok (.iaload, 1) := by decide +kernel
theorem dX12_image_35 : decode cX12_image 35 = .ok (.bipush 8, 2) := by decide +kernel
theorem dX12_image_37 : decode cX12_image 37 = .ok (.ishr, 1) := by decide +kernel
theorem dX12_image_38 : decode cX12_image 38 = .ok (.invokevirtual 568, 3) := by decide +kernel
theorem dX12_image_41 : decode cX12_image 41 = .ok (.aload_n 0, 1) := by decide +kernel
theorem dX12_image_42 : decode cX12_image 42 = .ok (.aload_n 0, 1) := by decide +kernel
theorem dX12_image_43 : decode cX12_image 43 = .ok (.getfield 153, 3) := by decide +kernel
theorem dX12_image_46 : decode cX12_image 46 = .ok (.iconst 0, 1) := by decide +kernel
theorem dX12_image_47 : decode cX12_image 47 = .ok (.iaload, 1) := by decide +kernel
theorem dX12_image_48 : decode cX12_image 48 = .ok (.invokevirtual 568, 3) := by decide +kernel
theorem dX12_image_51 : decode cX12_image 51 = .ok (.iconst 0, 1) := by decide +kernel
theorem dX12_image_52 : decode cX12_image 52 = .ok (.istore_n 1, 1) := by decide +kernel
theorem dX12_image_53 : decode cX12_image 53 = .ok (.iload_n 1, 1) := by decide +kernel
theorem dX12_image_54 : decode cX12_image 54 = .ok (.aload_n 0, 1) := by decide +kernel
theorem dX12_image_55 : decode cX12_image 55 = .ok (.getfield 54, 3) := by decide +kernel
theorem dX12_image_58 : decode cX12_image 58 = .ok (.aload_n 0, 1) := by decide +kernel
theorem dX12_image_59 : decode cX12_image 59 = .ok (.getfield 51, 3) := by decide +kernel
theorem dX12_image_62 : decode cX12_image 62 = .ok (.iaload, 1) := by decide +kernel
theorem dX12_image_63 : decode cX12_image 63 = .ok (.if_icmp .ge 19, 3) := by decide +kernel
theorem dX12_image_66 : decode cX12_image 66 = .ok (.aload_n 0, 1) := by decide +kernel
theorem dX12_image_67 : decode cX12_image 67 = .ok (.aload_n 0, 1) := by decide +kernel
theorem dX12_image_68 : decode cX12_image 68 = .ok (.getfield 156, 3) := by decide +kernel
theorem dX12_image_71 : decode cX12_image 71 = .ok (.iload_n 1, 1) := by decide +kernel
theorem dX12_image_72 : decode cX12_image 72 = .ok (.iaload, 1) := by decide +kernel
theorem dX12_image_73 : decode cX12_image 73 = .ok (.invokevirtual 568, 3) := by decide +kernel
theorem dX12_image_76 : decode cX12_image 76 = .ok (.iinc 1 1, 3) := by decide +kernel
theorem dX12_image_79 : decode cX12_image 79 = .ok (.goto (-26), 3) := by decide +kernel
theorem dX12_image_82 : decode cX12_image 82 = .ok (.iconst 0, 1) := by decide +kernel
theorem dX12_image_83 : decode cX12_image 83 = .ok (.istore_n 1, 1) := by decide +kernel
theorem dX12_image_84 : decode cX12_image 84 = .ok (.iload_n 1, 1) := by decide +kernel
theorem dX12_image_85 : decode cX12_image 85 = .ok (.aload_n 0, 1) := by decide +kernel
theorem dX12_image_86 : decode cX12_image 86 = .ok (.getfield 54, 3) := by decide +kernel
theorem dX12_image_89 : decode cX12_image 89 = .ok (.aload_n 0, 1) := by decide +kernel
theorem dX12_image_90 : decode cX12_image 90 = .ok (.getfield 51, 3) := by decide +kernel
theorem dX12_image_93 : decode cX12_image 93 = .ok (.iaload, 1) := by decide +kernel
theorem dX12_image_94 : decode cX12_image 94 = .ok (.if_icmp .ge 19, 3) := by decide +kernel
theorem dX12_image_97 : decode cX12_image 97 = .ok (.aload_n 0, 1) := by decide +kernel
theorem dX12_image_98 : decode cX12_image 98 = .ok (.aload_n 0, 1) := by decide +kernel
theorem dX12_image_99 : decode cX12_image 99 = .ok (.getfield 159, 3) := by decide +kernel
theorem dX12_image_102 : decode cX12_image 102 = .ok (.iload_n 1, 1) := by decide +kernel
theorem dX12_image_103 : decode cX12_image 103 = .ok (.iaload, 1) := by decide +kernel
theorem dX12_image_104 : decode cX12_image 104 = .ok (.invokevirtual 568, 3) := by decide +kernel
theorem dX12_image_107 : decode cX12_image 107 = .ok (.iinc 1 1, 3) := by decide +kernel
theorem dX12_image_110 : decode cX12_image 110 = .ok (.goto (-26), 3) := by decide +kernel
theorem dX12_image_113 : decode cX12_image 113 = .ok (.iconst 0, 1) := by decide +kernel
theorem dX12_image_114 : decode cX12_image 114 = .ok (.istore_n 1, 1) := by decide +kernel
theorem dX12_image_115 : decode cX12_image 115 = .ok (.iload_n 1, 1) := by decide +kernel
theorem dX12_image_116 : decode cX12_image 116 = .ok (.aload_n 0, 1) := by decide +kernel
theorem dX12_image_117 : decode cX12_image 117 = .ok (.getfield 72, 3) := by decide +kernel
theorem dX12_image_120 : decode cX12_image 120 = .ok (.aload_n 0, 1) := by decide +kernel
theorem dX12_image_121 : decode cX12_image 121 = .ok (.getfield 51, 3) := by decide +kernel
theorem dX12_image_124 : decode cX12_image 124 = .ok (.iaload, 1) := by decide +kernel
theorem dX12_image_125 : decode cX12_image 125 = .ok (.if_icmp .ge 19, 3) := by decide +kernel
theorem dX12_image_128 : decode cX12_image 128 = .ok (.aload_n 0, 1) := by decide +kernel
theorem dX12_image_129 : decode cX12_image 129 = .ok (.aload_n 0, 1) := by decide +kernel
theorem dX12_image_130 : decode cX12_image 130 = .ok (.getfield 162, 3) := by decide +kernel
theorem dX12_image_133 : decode cX12_image 133 = .ok (.iload_n 1, 1) := by decide +kernel
theorem dX12_image_134 : decode cX12_image 134 = .ok (.iaload, 1) := by decide +kernel
theorem dX12_image_135 : decode cX12_image 135 = .ok (.invokevirtual 568, 3) := by decide +kernel
theorem dX12_image_138 : decode cX12_image 138 = .ok (.iinc 1 1, 3) := by decide +kernel
theorem dX12_image_141 : decode cX12_image 141 = .ok (.goto (-26), 3) := by decide +kernel
theorem dX12_image_144 : decode cX12_image 144 = .ok (.sipush 229, 3) := by decide +kernel
theorem dX12_image_147 : decode cX12_image 147 = .ok (.istore_n 1, 1) := by decide +kernel
theorem dX12_image_148 : decode cX12_image 148 = .ok (.iconst 0, 1) := by decide +kernel
theorem dX12_image_149 : decode cX12_image 149 = .ok (.istore_n 2, 1) := by decide +kernel
theorem dX12_image_150 : decode cX12_image 150 = .ok (.iload_n 2, 1) := by decide +kernel
theorem dX12_image_151 : decode cX12_image 151 = .ok (.aload_n 0, 1) := by decide +kernel
theorem dX12_image_152 : decode cX12_image 152 = .ok (.getfield 219, 3) := by decide +kernel
theorem dX12_image_155 : decode cX12_image 155 = .ok (.if_icmp .ge 24, 3) := by decide +kernel
theorem dX12_image_158 : decode cX12_image 158 = .ok (.iconst 5, 1) := by decide +kernel
theorem dX12_image_159 : decode cX12_image 159 = .ok (.iload_n 1, 1) := by decide +kernel
theorem dX12_image_160 : decode cX12_image 160 = .ok (.imul, 1) := by decide +kernel
theorem dX12_image_161 : decode cX12_image 161 = .ok (.aload_n 0, 1) := by decide +kernel
theorem dX12_image_162 : decode cX12_image 162 = .ok (.getfield 216, 3) := by decide +kernel
theorem dX12_image_165 : decode cX12_image 165 = .ok (.iload_n 2, 1) := by decide +kernel
theorem dX12_image_166 : decode cX12_image 166 = .ok (.iaload, 1) := by decide +kernel
theorem dX12_image_167 : decode cX12_image 167 = .ok (.iadd, 1) := by decide +kernel
theorem dX12_image_168 : decode cX12_image 168 = .ok (.sipush 251, 3) := by decide +kernel
theorem dX12_image_171 : decode cX12_image 171 = .ok (.irem, 1) := by decide +kernel
theorem dX12_image_172 : decode cX12_image 172 = .ok (.istore_n 1, 1) := by decide +kernel
theorem dX12_image_173 : decode cX12_image 173 = .ok (.iinc 2 1, 3) := by decide +kernel
theorem dX12_image_176 : decode cX12_image 176 = .ok (.goto (-26), 3) := by decide +kernel
theorem dX12_image_179 : decode cX12_image 179 = .ok (.aload_n 0, 1) := by decide +kernel
theorem dX12_image_180 : decode cX12_image 180 = .ok (.iload_n 1, 1) := by decide +kernel
theorem dX12_image_181 : decode cX12_image 181 = .ok (.invokevirtual 568, 3) := by decide +kernel
theorem dX12_image_184 : decode cX12_image 184 = .ok (.aload_n 0, 1) := by decide +kernel
theorem dX12_image_185 : decode cX12_image 185 = .ok (.getfield 219, 3) := by decide +kernel
theorem dX12_image_188 : decode cX12_image 188 = .ok (.ireturn, 1) := by decide +kernel
theorem dX12_octet_0 : decode cX12_octet 0 = .ok (.iload_n 1, 1) := by decide +kernel
theorem dX12_octet_1 : decode cX12_octet 1 = .ok (.iconst 0, 1) := by decide +kernel
theorem dX12_octet_2 : decode cX12_octet 2 = .ok (.aload_n 0, 1) := by decide +kernel
theorem dX12_octet_3 : decode cX12_octet 3 = .ok (.getfield 219, 3) := by decide +kernel
theorem dX12_octet_6 : decode cX12_octet 6 = .ok (.iconst 1, 1) := by decide +kernel
theorem dX12_octet_7 : decode cX12_octet 7 = .ok (.isub, 1) := by decide +kernel
theorem dX12_octet_8 : decode cX12_octet 8 = .ok (.invokestatic 309, 3) := by decide +kernel
theorem dX12_octet_11 : decode cX12_octet 11 = .ok (.ifCond .eq 12, 3) := by decide +kernel
theorem dX12_octet_14 : decode cX12_octet 14 = .ok (.aload_n 0, 1) := by decide +kernel
theorem dX12_octet_15 : decode cX12_octet 15 = .ok (.getfield 216, 3) := by decide +kernel
theorem dX12_octet_18 : decode cX12_octet 18 = .ok (.iload_n 1, 1) := by decide +kernel
theorem dX12_octet_19 : decode cX12_octet 19 = .ok (.iaload, 1) := by decide +kernel
theorem dX12_octet_20 : decode cX12_octet 20 = .ok (.goto 4, 3) := by decide +kernel
theorem dX12_octet_23 : decode cX12_octet 23 = .ok (.iconst (-1), 1) := by decide +kernel
theorem dX12_octet_24 : decode cX12_octet 24 = .ok (.ireturn, 1) := by decide +kernel
theorem dX12_comesOn_0 : decode cX12_comesOn 0 = .ok (.aload_n 0, 1) := by decide +kernel
theorem dX12_comesOn_1 : decode cX12_comesOn 1 = .ok (.getfield 54, 3) := by decide +kernel
theorem dX12_comesOn_4 : decode cX12_comesOn 4 = .ok (.aload_n 0, 1) := by decide +kernel
theorem dX12_comesOn_5 : decode cX12_comesOn 5 = .ok (.getfield 51, 3) := by decide +kernel
theorem dX12_comesOn_8 : decode cX12_comesOn 8 = .ok (.iaload, 1) := by decide +kernel
theorem dX12_comesOn_9 : decode cX12_comesOn 9 = .ok (.istore_n 2, 1) := by decide +kernel
theorem dX12_comesOn_10 : decode cX12_comesOn 10 = .ok (.iload_n 1, 1) := by decide +kernel
theorem dX12_comesOn_11 : decode cX12_comesOn 11 = .ok (.iconst 5, 1) := by decide +kernel
theorem dX12_comesOn_12 : decode cX12_comesOn 12 = .ok (.iconst 2, 1) := by decide +kernel
theorem dX12_comesOn_13 : decode cX12_comesOn 13 = .ok (.iload_n 2, 1) := by decide +kernel
theorem dX12_comesOn_14 : decode cX12_comesOn 14 = .ok (.imul, 1) := by decide +kernel
theorem dX12_comesOn_15 : decode cX12_comesOn 15 = .ok (.iadd, 1) := by decide +kernel
theorem dX12_comesOn_16 : decode cX12_comesOn 16 = .ok (.aload_n 0, 1) := by decide +kernel
theorem dX12_comesOn_17 : decode cX12_comesOn 17 = .ok (.getfield 72, 3) := by decide +kernel
theorem dX12_comesOn_20 : decode cX12_comesOn 20 = .ok (.aload_n 0, 1) := by decide +kernel
theorem dX12_comesOn_21 : decode cX12_comesOn 21 = .ok (.getfield 51, 3) := by decide +kernel
theorem dX12_comesOn_24 : decode cX12_comesOn 24 = .ok (.iaload, 1) := by decide +kernel
theorem dX12_comesOn_25 : decode cX12_comesOn 25 = .ok (.iadd, 1) := by decide +kernel
theorem dX12_comesOn_26 : decode cX12_comesOn 26 = .ok (.if_icmp .ne 47, 3) := by decide +kernel
theorem dX12_comesOn_29 : decode cX12_comesOn 29 = .ok (.aload_n 0, 1) := by decide +kernel
theorem dX12_comesOn_30 : decode cX12_comesOn 30 = .ok (.getfield 7, 3) := by decide +kernel
theorem dX12_comesOn_33 : decode cX12_comesOn 33 = .ok (.iconst 0, 1) := by decide +kernel
theorem dX12_comesOn_34 : decode cX12_comesOn 34 = .ok (.iaload, 1) := by decide +kernel
theorem dX12_comesOn_35 : decode cX12_comesOn 35 = .ok (.bipush 8, 2) := by decide +kernel
theorem dX12_comesOn_37 : decode cX12_comesOn 37 = .ok (.ishl, 1) := by decide +kernel
theorem dX12_comesOn_38 : decode cX12_comesOn 38 = .ok (.aload_n 0, 1) := by decide +kernel
theorem dX12_comesOn_39 : decode cX12_comesOn 39 = .ok (.getfield 7, 3) := by decide +kernel
theorem dX12_comesOn_42 : decode cX12_comesOn 42 = .ok (.iconst 1, 1) := by decide +kernel
theorem dX12_comesOn_43 : decode cX12_comesOn 43 = .ok (.iaload, 1) := by decide +kernel
theorem dX12_comesOn_44 : decode cX12_comesOn 44 = .ok (.ior, 1) := by decide +kernel
theorem dX12_comesOn_45 : decode cX12_comesOn 45 = .ok (.sipush 999, 3) := by decide +kernel
theorem dX12_comesOn_48 : decode cX12_comesOn 48 = .ok (.if_icmp .gt 25, 3) := by decide +kernel
theorem dX12_comesOn_51 : decode cX12_comesOn 51 = .ok (.aload_n 0, 1) := by decide +kernel
theorem dX12_comesOn_52 : decode cX12_comesOn 52 = .ok (.getfield 7, 3) := by decide +kernel
theorem dX12_comesOn_55 : decode cX12_comesOn 55 = .ok (.iconst 2, 1) := by decide +kernel
theorem dX12_comesOn_56 : decode cX12_comesOn 56 = .ok (.iaload, 1) := by decide +kernel
theorem dX12_comesOn_57 : decode cX12_comesOn 57 = .ok (.bipush 8, 2) := by decide +kernel
theorem dX12_comesOn_59 : decode cX12_comesOn 59 = .ok (.ishl, 1) := by decide +kernel
theorem dX12_comesOn_60 : decode cX12_comesOn 60 = .ok (.aload_n 0, 1) := by decide +kernel
theorem dX12_comesOn_61 : decode cX12_comesOn 61 = .ok (.getfield 7, 3) := by decide +kernel
theorem dX12_comesOn_64 : decode cX12_comesOn 64 = .ok (.iconst 3, 1) := by decide +kernel
theorem dX12_comesOn_65 : decode cX12_comesOn 65 = .ok (.iaload, 1) := by decide +kernel
theorem dX12_comesOn_66 : decode cX12_comesOn 66 = .ok (.ior, 1) := by decide +kernel
theorem dX12_comesOn_67 : decode cX12_comesOn 67 = .ok (.sipush 9999, 3) := by decide +kernel
theorem dX12_comesOn_70 : decode cX12_comesOn 70 = .ok (.if_icmp .le 5, 3) := by decide +kernel
theorem dX12_comesOn_73 : decode cX12_comesOn 73 = .ok (.iconst 0, 1) := by decide +kernel
theorem dX12_comesOn_74 : decode cX12_comesOn 74 = .ok (.ireturn, 1) := by decide +kernel
theorem dX12_comesOn_75 : decode cX12_comesOn 75 = .ok (.sipush 229, 3) := by decide +kernel
theorem dX12_comesOn_78 : decode cX12_comesOn 78 = .ok (.istore_n 3, 1) := by decide +kernel
theorem dX12_comesOn_79 : decode cX12_comesOn 79 = .ok (.iconst 0, 1) := by decide +kernel
theorem dX12_comesOn_80 : decode cX12_comesOn 80 = .ok (.istore 4, 2) := by decide +kernel
theorem dX12_comesOn_82 : decode cX12_comesOn 82 = .ok (.iload 4, 2) := by decide +kernel
theorem dX12_comesOn_84 : decode cX12_comesOn 84 = .ok (.iload_n 1, 1) := by decide +kernel
theorem dX12_comesOn_85 : decode cX12_comesOn 85 = .ok (.iconst 1, 1) := by decide +kernel
theorem dX12_comesOn_86 : decode cX12_comesOn 86 = .ok (.isub, 1) := by decide +kernel
theorem dX12_comesOn_87 : decode cX12_comesOn 87 = .ok (.if_icmp .ge 25, 3) := by decide +kernel
theorem dX12_comesOn_90 : decode cX12_comesOn 90 = .ok (.iconst 5, 1) := by decide +kernel
theorem dX12_comesOn_91 : decode cX12_comesOn 91 = .ok (.iload_n 3, 1) := by decide +kernel
theorem dX12_comesOn_92 : decode cX12_comesOn 92 = .ok (.imul, 1) := by decide +kernel
theorem dX12_comesOn_93 : decode cX12_comesOn 93 = .ok (.aload_n 0, 1) := by decide +kernel
theorem dX12_comesOn_94 : decode cX12_comesOn 94 = .ok (.getfield 7, 3) := by decide +kernel
theorem dX12_comesOn_97 : decode cX12_comesOn 97 = .ok (.iload 4, 2) := by decide +kernel
theorem dX12_comesOn_99 : decode cX12_comesOn 99 = .ok (.iaload, 1) := by decide +kernel
theorem dX12_comesOn_100 : decode cX12_comesOn 100 = .ok (.iadd, 1) := by decide +kernel
theorem dX12_comesOn_101 : decode cX12_comesOn 101 = .ok (.sipush 251, 3) := by decide +kernel
theorem dX12_comesOn_104 : decode cX12_comesOn 104 = .ok (.irem, 1) := by decide +kernel
theorem dX12_comesOn_105 : decode cX12_comesOn 105 = .ok (.istore_n 3, 1) := by decide +kernel
theorem dX12_comesOn_106 : decode cX12_comesOn 106 = .ok (.iinc 4 1, 3) := by decide +kernel
theorem dX12_comesOn_109 : decode cX12_comesOn 109 = .ok (.goto (-27), 3) := by decide +kernel
theorem dX12_comesOn_112 : decode cX12_comesOn 112 = .ok (.aload_n 0, 1) := by decide +kernel
theorem dX12_comesOn_113 : decode cX12_comesOn 113 = .ok (.getfield 7, 3) := by decide +kernel
theorem dX12_comesOn_116 : decode cX12_comesOn 116 = .ok (.iload_n 1, 1) := by decide +kernel
theorem dX12_comesOn_117 : decode cX12_comesOn 117 = .ok (.iconst 1, 1) := by decide +kernel
theorem dX12_comesOn_118 : decode cX12_comesOn 118 = .ok (.isub, 1) := by decide +kernel
theorem dX12_comesOn_119 : decode cX12_comesOn 119 = .ok (.iaload, 1) := by decide +kernel
theorem dX12_comesOn_120 : decode cX12_comesOn 120 = .ok (.iload_n 3, 1) := by decide +kernel
theorem dX12_comesOn_121 : decode cX12_comesOn 121 = .ok (.if_icmp .eq 5, 3) := by decide +kernel
theorem dX12_comesOn_124 : decode cX12_comesOn 124 = .ok (.iconst 0, 1) := by decide +kernel
theorem dX12_comesOn_125 : decode cX12_comesOn 125 = .ok (.ireturn, 1) := by decide +kernel
theorem dX12_comesOn_126 : decode cX12_comesOn 126 = .ok (.aload_n 0, 1) := by decide +kernel
theorem dX12_comesOn_127 : decode cX12_comesOn 127 = .ok (.iconst 1, 1) := by decide +kernel
theorem dX12_comesOn_128 : decode cX12_comesOn 128 = .ok (.iconst 0, 1) := by decide +kernel
theorem dX12_comesOn_129 : decode cX12_comesOn 129 = .ok (.invokevirtual 424, 3) := by decide +kernel
theorem dX12_comesOn_132 : decode cX12_comesOn 132 = .ok (.aload_n 0, 1) := by decide +kernel
theorem dX12_comesOn_133 : decode cX12_comesOn 133 = .ok (.getfield 150, 3) := by decide +kernel
theorem dX12_comesOn_136 : decode cX12_comesOn 136 = .ok (.iconst 1, 1) := by decide +kernel
theorem dX12_comesOn_137 : decode cX12_comesOn 137 = .ok (.aload_n 0, 1) := by decide +kernel
theorem dX12_comesOn_138 : decode cX12_comesOn 138 = .ok (.getfield 7, 3) := by decide +kernel
theorem dX12_comesOn_141 : decode cX12_comesOn 141 = .ok (.iconst 0, 1) := by decide +kernel
theorem dX12_comesOn_142 : decode cX12_comesOn 142 = .ok (.iaload, 1) := by decide +kernel
theorem dX12_comesOn_143 : decode cX12_comesOn 143 = .ok (.bipush 8, 2) := by decide +kernel
theorem dX12_comesOn_145 : decode cX12_comesOn 145 = .ok (.ishl, 1) := by decide +kernel
theorem dX12_comesOn_146 : decode cX12_comesOn 146 = .ok (.aload_n 0, 1) := by decide +kernel
theorem dX12_comesOn_147 : decode cX12_comesOn 147 = .ok (.getfield 7, 3) := by decide +kernel
theorem dX12_comesOn_150 : decode cX12_comesOn 150 = .ok (.iconst 1, 1) := by decide +kernel
theorem dX12_comesOn_151 : decode cX12_comesOn 151 = .ok (.iaload, 1) := by decide +kernel
theorem dX12_comesOn_152 : decode cX12_comesOn 152 = .ok (.ior, 1) := by decide +kernel
theorem dX12_comesOn_153 : decode cX12_comesOn 153 = .ok (.iastore, 1) := by decide +kernel
theorem dX12_comesOn_154 : decode cX12_comesOn 154 = .ok (.aload_n 0, 1) := by decide +kernel
theorem dX12_comesOn_155 : decode cX12_comesOn 155 = .ok (.getfield 153, 3) := by decide +kernel
theorem dX12_comesOn_158 : decode cX12_comesOn 158 = .ok (.iconst 1, 1) := by decide +kernel
theorem dX12_comesOn_159 : decode cX12_comesOn 159 = .ok (.aload_n 0, 1) := by decide +kernel
theorem dX12_comesOn_160 : decode cX12_comesOn 160 = .ok (.getfield 7, 3) := by decide +kernel
theorem dX12_comesOn_163 : decode cX12_comesOn 163 = .ok (.iconst 2, 1) := by decide +kernel
theorem dX12_comesOn_164 : decode cX12_comesOn 164 = .ok (.iaload, 1) := by decide +kernel
theorem dX12_comesOn_165 : decode cX12_comesOn 165 = .ok (.bipush 8, 2) := by decide +kernel
theorem dX12_comesOn_167 : decode cX12_comesOn 167 = .ok (.ishl, 1) := by decide +kernel
theorem dX12_comesOn_168 : decode cX12_comesOn 168 = .ok (.aload_n 0, 1) := by decide +kernel
theorem dX12_comesOn_169 : decode cX12_comesOn 169 = .ok (.getfield 7, 3) := by decide +kernel
theorem dX12_comesOn_172 : decode cX12_comesOn 172 = .ok (.iconst 3, 1) := by decide +kernel
theorem dX12_comesOn_173 : decode cX12_comesOn 173 = .ok (.iaload, 1) := by decide +kernel
theorem dX12_comesOn_174 : decode cX12_comesOn 174 = .ok (.ior, 1) := by decide +kernel
theorem dX12_comesOn_175 : decode cX12_comesOn 175 = .ok (.iastore, 1) := by decide +kernel
theorem dX12_comesOn_176 : decode cX12_comesOn 176 = .ok (.aload_n 0, 1) := by decide +kernel
theorem dX12_comesOn_177 : decode cX12_comesOn 177 = .ok (.getfield 165, 3) := by decide +kernel
theorem dX12_comesOn_180 : decode cX12_comesOn 180 = .ok (.iconst 1, 1) := by decide +kernel
theorem dX12_comesOn_181 : decode cX12_comesOn 181 = .ok (.iconst 0, 1) := by decide +kernel
theorem dX12_comesOn_182 : decode cX12_comesOn 182 = .ok (.iastore, 1) := by decide +kernel
theorem dX12_comesOn_183 : decode cX12_comesOn 183 = .ok (.iconst 0, 1) := by decide +kernel
theorem dX12_comesOn_184 : decode cX12_comesOn 184 = .ok (.istore 4, 2) := by decide +kernel
theorem dX12_comesOn_186 : decode cX12_comesOn 186 = .ok (.iconst 0, 1) := by decide +kernel
theorem dX12_comesOn_187 : decode cX12_comesOn 187 = .ok (.istore 5, 2) := by decide +kernel
theorem dX12_comesOn_189 : decode cX12_comesOn 189 = .ok (.iload 5, 2) := by decide +kernel
theorem dX12_comesOn_191 : decode cX12_comesOn 191 = .ok (.iload_n 2, 1) := by decide +kernel
theorem dX12_comesOn_192 : decode cX12_comesOn 192 = .ok (.if_icmp .ge 94, 3) := by decide +kernel
theorem dX12_comesOn_195 : decode cX12_comesOn 195 = .ok (.aload_n 0, 1) := by decide +kernel
theorem dX12_comesOn_196 : decode cX12_comesOn 196 = .ok (.getfield 7, 3) := by decide +kernel
theorem dX12_comesOn_199 : decode cX12_comesOn 199 = .ok (.iconst 4, 1) := by decide +kernel
theorem dX12_comesOn_200 : decode cX12_comesOn 200 = .ok (.iload 5, 2) := by decide +kernel
theorem dX12_comesOn_202 : decode cX12_comesOn 202 = .ok (.iadd, 1) := by decide +kernel
theorem dX12_comesOn_203 : decode cX12_comesOn 203 = .ok (.iaload, 1) := by decide +kernel
theorem dX12_comesOn_204 : decode cX12_comesOn 204 = .ok (.istore 6, 2) := by decide +kernel
theorem dX12_comesOn_206 : decode cX12_comesOn 206 = .ok (.aload_n 0, 1) := by decide +kernel
theorem dX12_comesOn_207 : decode cX12_comesOn 207 = .ok (.getfield 7, 3) := by decide +kernel
theorem dX12_comesOn_210 : decode cX12_comesOn 210 = .ok (.iconst 4, 1) := by decide +kernel
theorem dX12_comesOn_211 : decode cX12_comesOn 211 = .ok (.iload_n 2, 1) := by decide +kernel
theorem dX12_comesOn_212 : decode cX12_comesOn 212 = .ok (.iadd, 1) := by decide +kernel
theorem dX12_comesOn_213 : decode cX12_comesOn 213 = .ok (.iload 5, 2) := by decide +kernel
theorem dX12_comesOn_215 : decode cX12_comesOn 215 = .ok (.iadd, 1) := by decide +kernel
theorem dX12_comesOn_216 : decode cX12_comesOn 216 = .ok (.iaload, 1) := by decide +kernel
theorem dX12_comesOn_217 : decode cX12_comesOn 217 = .ok (.istore 7, 2) := by decide +kernel
theorem dX12_comesOn_219 : decode cX12_comesOn 219 = .ok (.aload_n 0, 1) := by decide +kernel
theorem dX12_comesOn_220 : decode cX12_comesOn 220 = .ok (.iload 6, 2) := by decide +kernel
theorem dX12_comesOn_222 : decode cX12_comesOn 222 = .ok (.invokevirtual 507, 3) := by decide +kernel
theorem dX12_comesOn_225 : decode cX12_comesOn 225 = .ok (.ifCond .eq 20, 3) := by decide +kernel
theorem dX12_comesOn_228 : decode cX12_comesOn 228 = .ok (.iload 4, 2) := by decide +kernel
theorem dX12_comesOn_230 : decode cX12_comesOn 230 = .ok (.iload 6, 2) := by decide +kernel
theorem dX12_comesOn_232 : decode cX12_comesOn 232 = .ok (.invokestatic 351, 3) := by decide +kernel
theorem dX12_comesOn_235 : decode cX12_comesOn 235 = .ok (.ifCond .ne 10, 3) := by decide +kernel
theorem dX12_comesOn_238 : decode cX12_comesOn 238 = .ok (.iload 7, 2) := by decide +kernel
theorem dX12_comesOn_240 : decode cX12_comesOn 240 = .ok (.bipush 9, 2) := by decide +kernel
theorem dX12_comesOn_242 : decode cX12_comesOn 242 = .ok (.if_icmp .le 5, 3) := by decide +kernel
theorem dX12_comesOn_245 : decode cX12_comesOn 245 = .ok (.iconst 0, 1) := by decide +kernel
theorem dX12_comesOn_246 : decode cX12_comesOn 246 = .ok (.ireturn, 1) := by decide +kernel
theorem dX12_comesOn_247 : decode cX12_comesOn 247 = .ok (.iload 4, 2) := by decide +kernel
theorem dX12_comesOn_249 : decode cX12_comesOn 249 = .ok (.iconst 1, 1) := by decide +kernel
theorem dX12_comesOn_250 : decode cX12_comesOn 250 = .ok (.iload 6, 2) := by decide +kernel
theorem dX12_comesOn_252 : decode cX12_comesOn 252 = .ok (.ishl, 1) := by decide +kernel
theorem dX12_comesOn_253 : decode cX12_comesOn 253 = .ok (.ior, 1) := by decide +kernel
theorem dX12_comesOn_254 : decode cX12_comesOn 254 = .ok (.istore 4, 2) := by decide +kernel
theorem dX12_comesOn_256 : decode cX12_comesOn 256 = .ok (.aload_n 0, 1) := by decide +kernel
theorem dX12_comesOn_257 : decode cX12_comesOn 257 = .ok (.getfield 156, 3) := by decide +kernel
theorem dX12_comesOn_260 : decode cX12_comesOn 260 = .ok (.bipush 6, 2) := by decide +kernel
theorem dX12_comesOn_262 : decode cX12_comesOn 262 = .ok (.iload 5, 2) := by decide +kernel
theorem dX12_comesOn_264 : decode cX12_comesOn 264 = .ok (.iadd, 1) := by decide +kernel
theorem dX12_comesOn_265 : decode cX12_comesOn 265 = .ok (.iload 6, 2) := by decide +kernel
theorem dX12_comesOn_267 : decode cX12_comesOn 267 = .ok (.iastore, 1) := by decide +kernel
theorem dX12_comesOn_268 : decode cX12_comesOn 268 = .ok (.aload_n 0, 1) := by decide +kernel
theorem dX12_comesOn_269 : decode cX12_comesOn 269 = .ok (.getfield 159, 3) := by decide +kernel
theorem dX12_comesOn_272 : decode cX12_comesOn 272 = .ok (.bipush 6, 2) := by decide +kernel
theorem dX12_comesOn_274 : decode cX12_comesOn 274 = .ok (.iload 5, 2) := by decide +kernel
theorem dX12_comesOn_276 : decode cX12_comesOn 276 = .ok (.iadd, 1) := by decide +kernel
theorem dX12_comesOn_277 : decode cX12_comesOn 277 = .ok (.iload 7, 2) := by decide +kernel
theorem dX12_comesOn_279 : decode cX12_comesOn 279 = .ok (.iastore, 1) := by decide +kernel
theorem dX12_comesOn_280 : decode cX12_comesOn 280 = .ok (.iinc 5 1, 3) := by decide +kernel
theorem dX12_comesOn_283 : decode cX12_comesOn 283 = .ok (.goto (-94), 3) := by decide +kernel
theorem dX12_comesOn_286 : decode cX12_comesOn 286 = .ok (.iconst 0, 1) := by decide +kernel
theorem dX12_comesOn_287 : decode cX12_comesOn 287 = .ok (.istore 5, 2) := by decide +kernel
theorem dX12_comesOn_289 : decode cX12_comesOn 289 = .ok (.iload 5, 2) := by decide +kernel
theorem dX12_comesOn_291 : decode cX12_comesOn 291 = .ok (.aload_n 0, 1) := by decide +kernel
theorem dX12_comesOn_292 : decode cX12_comesOn 292 = .ok (.getfield 72, 3) := by decide +kernel
theorem dX12_comesOn_295 : decode cX12_comesOn 295 = .ok (.aload_n 0, 1) := by decide +kernel
theorem dX12_comesOn_296 : decode cX12_comesOn 296 = .ok (.getfield 51, 3) := by decide +kernel
theorem dX12_comesOn_299 : decode cX12_comesOn 299 = .ok (.iaload, 1) := by decide +kernel
theorem dX12_comesOn_300 : decode cX12_comesOn 300 = .ok (.if_icmp .ge 67, 3) := by decide +kernel
theorem dX12_comesOn_303 : decode cX12_comesOn 303 = .ok (.aload_n 0, 1) := by decide +kernel
theorem dX12_comesOn_304 : decode cX12_comesOn 304 = .ok (.getfield 7, 3) := by decide +kernel
theorem dX12_comesOn_307 : decode cX12_comesOn 307 = .ok (.iconst 4, 1) := by decide +kernel
theorem dX12_comesOn_308 : decode cX12_comesOn 308 = .ok (.iconst 2, 1) := by decide +kernel
theorem dX12_comesOn_309 : decode cX12_comesOn 309 = .ok (.iload_n 2, 1) := by decide +kernel
theorem dX12_comesOn_310 : decode cX12_comesOn 310 = .ok (.imul, 1) := by decide +kernel
theorem dX12_comesOn_311 : decode cX12_comesOn 311 = .ok (.iadd, 1) := by decide +kernel
theorem dX12_comesOn_312 : decode cX12_comesOn 312 = .ok (.iload 5, 2) := by decide +kernel
theorem dX12_comesOn_314 : decode cX12_comesOn 314 = .ok (.iadd, 1) := by decide +kernel
theorem dX12_comesOn_315 : decode cX12_comesOn 315 = .ok (.iaload, 1) := by decide +kernel
theorem dX12_comesOn_316 : decode cX12_comesOn 316 = .ok (.istore 6, 2) := by decide +kernel
theorem dX12_comesOn_318 : decode cX12_comesOn 318 = .ok (.iload 6, 2) := by decide +kernel
theorem dX12_comesOn_320 : decode cX12_comesOn 320 = .ok (.sipush 255, 3) := by decide +kernel
theorem dX12_comesOn_323 : decode cX12_comesOn 323 = .ok (.if_icmp .eq 14, 3) := by decide +kernel
theorem dX12_comesOn_326 : decode cX12_comesOn 326 = .ok (.aload_n 0, 1) := by decide +kernel
theorem dX12_comesOn_327 : decode cX12_comesOn 327 = .ok (.iload 6, 2) := by decide +kernel
theorem dX12_comesOn_329 : decode cX12_comesOn 329 = .ok (.invokevirtual 510, 3) := by decide +kernel
theorem dX12_comesOn_332 : decode cX12_comesOn 332 = .ok (.ifCond .ne 5, 3) := by decide +kernel
theorem dX12_comesOn_335 : decode cX12_comesOn 335 = .ok (.iconst 0, 1) := by decide +kernel
theorem dX12_comesOn_336 : decode cX12_comesOn 336 = .ok (.ireturn, 1) := by decide +kernel
theorem dX12_comesOn_337 : decode cX12_comesOn 337 = .ok (.aload_n 0, 1) := by decide +kernel
theorem dX12_comesOn_338 : decode cX12_comesOn 338 = .ok (.getfield 162, 3) := by decide +kernel
theorem dX12_comesOn_341 : decode cX12_comesOn 341 = .ok (.bipush 6, 2) := by decide +kernel
theorem dX12_comesOn_343 : decode cX12_comesOn 343 = .ok (.iload 5, 2) := by decide +kernel
theorem dX12_comesOn_345 : decode cX12_comesOn 345 = .ok (.iadd, 1) := by decide +kernel
theorem dX12_comesOn_346 : decode cX12_comesOn 346 = .ok (.iload 6, 2) := by decide +kernel
theorem dX12_comesOn_348 : decode cX12_comesOn 348 = .ok (.sipush 255, 3) := by decide +kernel
theorem dX12_comesOn_351 : decode cX12_comesOn 351 = .ok (.if_icmp .ne 7, 3) := by decide +kernel
theorem dX12_comesOn_354 : decode cX12_comesOn 354 = .ok (.iconst (-1), 1) := by decide +kernel
theorem dX12_comesOn_355 : decode cX12_comesOn 355 = .ok (.goto 5, 3) := by decide +kernel
theorem dX12_comesOn_358 : decode cX12_comesOn 358 = .ok (.iload 6, 2) := by decide +kernel
theorem dX12_comesOn_360 : decode cX12_comesOn 360 = .ok (.iastore, 1) := by decide +kernel
theorem dX12_comesOn_361 : decode cX12_comesOn 361 = .ok (.iinc 5 1, 3) := by decide +kernel
theorem dX12_comesOn_364 : decode cX12_comesOn 364 = .ok (.goto (-75), 3) := by decide +kernel
theorem dX12_comesOn_367 : decode cX12_comesOn 367 = .ok (.iconst 1, 1) := by decide +kernel
theorem dX12_comesOn_368 : decode cX12_comesOn 368 = .ok (.ireturn, 1) := by decide +kernel
theorem dX12_on_0 : decode cX12_on 0 = .ok (.aload_n 0, 1) := by decide +kernel
theorem dX12_on_1 : decode cX12_on 1 = .ok (.getfield 13, 3) := by decide +kernel
theorem dX12_on_4 : decode cX12_on 4 = .ok (.istore_n 1, 1) := by decide +kernel
theorem dX12_on_5 : decode cX12_on 5 = .ok (.aload_n 0, 1) := by decide +kernel
theorem dX12_on_6 : decode cX12_on 6 = .ok (.iconst 0, 1) := by decide +kernel
theorem dX12_on_7 : decode cX12_on 7 = .ok (.putfield 13, 3) := by decide +kernel
theorem dX12_on_10 : decode cX12_on 10 = .ok (.aload_n 0, 1) := by decide +kernel
theorem dX12_on_11 : decode cX12_on 11 = .ok (.iload_n 1, 1) := by decide +kernel
theorem dX12_on_12 : decode cX12_on 12 = .ok (.invokevirtual 571, 3) := by decide +kernel
theorem dX12_on_15 : decode cX12_on 15 = .ok (.ifCond .ne 17, 3) := by decide +kernel
theorem dX12_on_18 : decode cX12_on 18 = .ok (.aload_n 0, 1) := by decide +kernel
theorem dX12_on_19 : decode cX12_on 19 = .ok (.iconst 5, 1) := by decide +kernel
theorem dX12_on_20 : decode cX12_on 20 = .ok (.invokevirtual 222, 3) := by decide +kernel
theorem dX12_on_23 : decode cX12_on 23 = .ok (.ifCond .lt 7, 3) := by decide +kernel
theorem dX12_on_26 : decode cX12_on 26 = .ok (.iconst 1, 1) := by decide +kernel
theorem dX12_on_27 : decode cX12_on 27 = .ok (.goto 4, 3) := by decide +kernel
theorem dX12_on_30 : decode cX12_on 30 = .ok (.iconst 0, 1) := by decide +kernel
theorem dX12_on_31 : decode cX12_on 31 = .ok (.ireturn, 1) := by decide +kernel
theorem dX12_on_32 : decode cX12_on 32 = .ok (.aload_n 0, 1) := by decide +kernel
theorem dX12_on_33 : decode cX12_on 33 = .ok (.iconst 0, 1) := by decide +kernel
theorem dX12_on_34 : decode cX12_on 34 = .ok (.iconst 1, 1) := by decide +kernel
theorem dX12_on_35 : decode cX12_on 35 = .ok (.invokevirtual 424, 3) := by decide +kernel
theorem dX12_on_38 : decode cX12_on 38 = .ok (.aload_n 0, 1) := by decide +kernel
theorem dX12_on_39 : decode cX12_on 39 = .ok (.iconst 0, 1) := by decide +kernel
theorem dX12_on_40 : decode cX12_on 40 = .ok (.putfield 174, 3) := by decide +kernel
theorem dX12_on_43 : decode cX12_on 43 = .ok (.iconst 1, 1) := by decide +kernel
theorem dX12_on_44 : decode cX12_on 44 = .ok (.ireturn, 1) := by decide +kernel
theorem dJ6_bitCount_0f7a4_0 : decode cJ6_bitCount_0f7a4 0 = .ok (.iload_n 0, 1) := by decide +kernel
theorem dJ6_bitCount_0f7a4_1 : decode cJ6_bitCount_0f7a4 1 = .ok (.iload_n 0, 1) := by decide +kernel
theorem dJ6_bitCount_0f7a4_2 : decode cJ6_bitCount_0f7a4 2 = .ok (.iconst 1, 1) := by decide +kernel
theorem dJ6_bitCount_0f7a4_3 : decode cJ6_bitCount_0f7a4 3 = .ok (.iushr, 1) := by decide +kernel
theorem dJ6_bitCount_0f7a4_4 : decode cJ6_bitCount_0f7a4 4 = .ok (.ldc_w 265, 3) := by decide +kernel
theorem dJ6_bitCount_0f7a4_7 : decode cJ6_bitCount_0f7a4 7 = .ok (.iand, 1) := by decide +kernel
theorem dJ6_bitCount_0f7a4_8 : decode cJ6_bitCount_0f7a4 8 = .ok (.isub, 1) := by decide +kernel
theorem dJ6_bitCount_0f7a4_9 : decode cJ6_bitCount_0f7a4 9 = .ok (.istore_n 0, 1) := by decide +kernel
theorem dJ6_bitCount_0f7a4_10 : decode cJ6_bitCount_0f7a4 10 = .ok (.iload_n 0, 1) := by decide +kernel
theorem dJ6_bitCount_0f7a4_11 : decode cJ6_bitCount_0f7a4 11 = .ok (.ldc_w 266, 3) := by decide +kernel
theorem dJ6_bitCount_0f7a4_14 : decode cJ6_bitCount_0f7a4 14 = .ok (.iand, 1) := by decide +kernel
theorem dJ6_bitCount_0f7a4_15 : decode cJ6_bitCount_0f7a4 15 = .ok (.iload_n 0, 1) := by decide +kernel
theorem dJ6_bitCount_0f7a4_16 : decode cJ6_bitCount_0f7a4 16 = .ok (.iconst 2, 1) := by decide +kernel
theorem dJ6_bitCount_0f7a4_17 : decode cJ6_bitCount_0f7a4 17 = .ok (.iushr, 1) := by decide +kernel
theorem dJ6_bitCount_0f7a4_18 : decode cJ6_bitCount_0f7a4 18 = .ok (.ldc_w 266, 3) := by decide +kernel
theorem dJ6_bitCount_0f7a4_21 : decode cJ6_bitCount_0f7a4 21 = .ok (.iand, 1) := by decide +kernel
theorem dJ6_bitCount_0f7a4_22 : decode cJ6_bitCount_0f7a4 22 = .ok (.iadd, 1) := by decide +kernel
theorem dJ6_bitCount_0f7a4_23 : decode cJ6_bitCount_0f7a4 23 = .ok (.istore_n 0, 1) := by decide +kernel
theorem dJ6_bitCount_0f7a4_24 : decode cJ6_bitCount_0f7a4 24 = .ok (.iload_n 0, 1) := by decide +kernel
theorem dJ6_bitCount_0f7a4_25 : decode cJ6_bitCount_0f7a4 25 = .ok (.iload_n 0, 1) := by decide +kernel
theorem dJ6_bitCount_0f7a4_26 : decode cJ6_bitCount_0f7a4 26 = .ok (.iconst 4, 1) := by decide +kernel
theorem dJ6_bitCount_0f7a4_27 : decode cJ6_bitCount_0f7a4 27 = .ok (.iushr, 1) := by decide +kernel
theorem dJ6_bitCount_0f7a4_28 : decode cJ6_bitCount_0f7a4 28 = .ok (.iadd, 1) := by decide +kernel
theorem dJ6_bitCount_0f7a4_29 : decode cJ6_bitCount_0f7a4 29 = .ok (.ldc_w 267, 3) := by decide +kernel
theorem dJ6_bitCount_0f7a4_32 : decode cJ6_bitCount_0f7a4 32 = .ok (.iand, 1) := by decide +kernel
theorem dJ6_bitCount_0f7a4_33 : decode cJ6_bitCount_0f7a4 33 = .ok (.istore_n 0, 1) := by decide +kernel
theorem dJ6_bitCount_0f7a4_34 : decode cJ6_bitCount_0f7a4 34 = .ok (.iload_n 0, 1) := by decide +kernel
theorem dJ6_bitCount_0f7a4_35 : decode cJ6_bitCount_0f7a4 35 = .ok (.iload_n 0, 1) := by decide +kernel
theorem dJ6_bitCount_0f7a4_36 : decode cJ6_bitCount_0f7a4 36 = .ok (.bipush 8, 2) := by decide +kernel
theorem dJ6_bitCount_0f7a4_38 : decode cJ6_bitCount_0f7a4 38 = .ok (.iushr, 1) := by decide +kernel
theorem dJ6_bitCount_0f7a4_39 : decode cJ6_bitCount_0f7a4 39 = .ok (.iadd, 1) := by decide +kernel
theorem dJ6_bitCount_0f7a4_40 : decode cJ6_bitCount_0f7a4 40 = .ok (.istore_n 0, 1) := by decide +kernel
theorem dJ6_bitCount_0f7a4_41 : decode cJ6_bitCount_0f7a4 41 = .ok (.iload_n 0, 1) := by decide +kernel
theorem dJ6_bitCount_0f7a4_42 : decode cJ6_bitCount_0f7a4 42 = .ok (.iload_n 0, 1) := by decide +kernel
theorem dJ6_bitCount_0f7a4_43 : decode cJ6_bitCount_0f7a4 43 = .ok (.bipush 16, 2) := by decide +kernel
theorem dJ6_bitCount_0f7a4_45 : decode cJ6_bitCount_0f7a4 45 = .ok (.iushr, 1) := by decide +kernel
theorem dJ6_bitCount_0f7a4_46 : decode cJ6_bitCount_0f7a4 46 = .ok (.iadd, 1) := by decide +kernel
theorem dJ6_bitCount_0f7a4_47 : decode cJ6_bitCount_0f7a4 47 = .ok (.istore_n 0, 1) := by decide +kernel
theorem dJ6_bitCount_0f7a4_48 : decode cJ6_bitCount_0f7a4 48 = .ok (.iload_n 0, 1) := by decide +kernel
theorem dJ6_bitCount_0f7a4_49 : decode cJ6_bitCount_0f7a4 49 = .ok (.bipush 63, 2) := by decide +kernel
theorem dJ6_bitCount_0f7a4_51 : decode cJ6_bitCount_0f7a4 51 = .ok (.iand, 1) := by decide +kernel
theorem dJ6_bitCount_0f7a4_52 : decode cJ6_bitCount_0f7a4 52 = .ok (.ireturn, 1) := by decide +kernel
theorem dJ0_length_8abf5_0 : decode cJ0_length_8abf5 0 = .ok (.aload_n 0, 1) := by decide +kernel
theorem dJ0_length_8abf5_1 : decode cJ0_length_8abf5 1 = .ok (.getfield 9, 3) := by decide +kernel
theorem dJ0_length_8abf5_4 : decode cJ0_length_8abf5 4 = .ok (.arraylength, 1) := by decide +kernel
theorem dJ0_length_8abf5_5 : decode cJ0_length_8abf5 5 = .ok (.aload_n 0, 1) := by decide +kernel
theorem dJ0_length_8abf5_6 : decode cJ0_length_8abf5 6 = .ok (.invokevirtual 335, 3) := by decide +kernel
theorem dJ0_length_8abf5_9 : decode cJ0_length_8abf5 9 = .ok (.ishr, 1) := by decide +kernel
theorem dJ0_length_8abf5_10 : decode cJ0_length_8abf5 10 = .ok (.ireturn, 1) := by decide +kernel
theorem dJ0_charAt_5068e_0 : decode cJ0_charAt_5068e 0 = .ok (.aload_n 0, 1) := by decide +kernel
theorem dJ0_charAt_5068e_1 : decode cJ0_charAt_5068e 1 = .ok (.invokevirtual 492, 3) := by decide +kernel
theorem dJ0_charAt_5068e_4 : decode cJ0_charAt_5068e 4 = .ok (.ifCond .eq 12, 3) := by decide +kernel
theorem dJ0_charAt_5068e_7 : decode cJ0_charAt_5068e 7 = .ok (.aload_n 0, 1) := by decide +kernel
theorem dJ0_charAt_5068e_8 : decode cJ0_charAt_5068e 8 = .ok (.getfield 9, 3) := by decide +kernel
theorem dJ0_charAt_5068e_11 : decode cJ0_charAt_5068e 11 = .ok (.iload_n 1, 1) := by decide +kernel
theorem dJ0_charAt_5068e_12 : decode cJ0_charAt_5068e 12 = .ok (.invokestatic 495, 3) := by decide +kernel
theorem dJ0_charAt_5068e_15 : decode cJ0_charAt_5068e 15 = .ok (.ireturn, 1) := by decide +kernel
theorem dJ0_charAt_5068e_16 : decode cJ0_charAt_5068e 16 = .ok (.aload_n 0, 1) := by decide +kernel
theorem dJ0_charAt_5068e_17 : decode cJ0_charAt_5068e 17 = .ok (.getfield 9, 3) := by decide +kernel
theorem dJ0_charAt_5068e_20 : decode cJ0_charAt_5068e 20 = .ok (.iload_n 1, 1) := by decide +kernel
theorem dJ0_charAt_5068e_21 : decode cJ0_charAt_5068e 21 = .ok (.invokestatic 498, 3) := by decide +kernel
theorem dJ0_charAt_5068e_24 : decode cJ0_charAt_5068e 24 = .ok (.ireturn, 1) := by decide +kernel
theorem dJ0_indexOf_0f7a4_0 : decode cJ0_indexOf_0f7a4 0 = .ok (.aload_n 0, 1) := by decide +kernel
theorem dJ0_indexOf_0f7a4_1 : decode cJ0_indexOf_0f7a4 1 = .ok (.iload_n 1, 1) := by decide +kernel
theorem dJ0_indexOf_0f7a4_2 : decode cJ0_indexOf_0f7a4 2 = .ok (.iconst 0, 1) := by decide +kernel
theorem dJ0_indexOf_0f7a4_3 : decode cJ0_indexOf_0f7a4 3 = .ok (.invokevirtual 633, 3) := by decide +kernel
theorem dJ0_indexOf_0f7a4_6 : decode cJ0_indexOf_0f7a4 6 = .ok (.ireturn, 1) := by decide +kernel
theorem dJ0_indexOf_7cf53_0 : decode cJ0_indexOf_7cf53 0 = .ok (.aload_n 0, 1) := by decide +kernel
theorem dJ0_indexOf_7cf53_1 : decode cJ0_indexOf_7cf53 1 = .ok (.invokevirtual 492, 3) := by decide +kernel
theorem dJ0_indexOf_7cf53_4 : decode cJ0_indexOf_7cf53 4 = .ok (.ifCond .eq 19, 3) := by decide +kernel
theorem dJ0_indexOf_7cf53_7 : decode cJ0_indexOf_7cf53 7 = .ok (.aload_n 0, 1) := by decide +kernel
theorem dJ0_indexOf_7cf53_8 : decode cJ0_indexOf_7cf53 8 = .ok (.getfield 9, 3) := by decide +kernel
theorem dJ0_indexOf_7cf53_11 : decode cJ0_indexOf_7cf53 11 = .ok (.iload_n 1, 1) := by decide +kernel
theorem dJ0_indexOf_7cf53_12 : decode cJ0_indexOf_7cf53 12 = .ok (.iload_n 2, 1) := by decide +kernel
theorem dJ0_indexOf_7cf53_13 : decode cJ0_indexOf_7cf53 13 = .ok (.aload_n 0, 1) := by decide +kernel
theorem dJ0_indexOf_7cf53_14 : decode cJ0_indexOf_7cf53 14 = .ok (.invokevirtual 505, 3) := by decide +kernel
theorem dJ0_indexOf_7cf53_17 : decode cJ0_indexOf_7cf53 17 = .ok (.invokestatic 637, 3) := by decide +kernel
theorem dJ0_indexOf_7cf53_20 : decode cJ0_indexOf_7cf53 20 = .ok (.goto 16, 3) := by decide +kernel
theorem dJ0_indexOf_7cf53_23 : decode cJ0_indexOf_7cf53 23 = .ok (.aload_n 0, 1) := by decide +kernel
theorem dJ0_indexOf_7cf53_24 : decode cJ0_indexOf_7cf53 24 = .ok (.getfield 9, 3) := by decide +kernel
theorem dJ0_indexOf_7cf53_27 : decode cJ0_indexOf_7cf53 27 = .ok (.iload_n 1, 1) := by decide +kernel
theorem dJ0_indexOf_7cf53_28 : decode cJ0_indexOf_7cf53 28 = .ok (.iload_n 2, 1) := by decide +kernel
theorem dJ0_indexOf_7cf53_29 : decode cJ0_indexOf_7cf53 29 = .ok (.aload_n 0, 1) := by decide +kernel
theorem dJ0_indexOf_7cf53_30 : decode cJ0_indexOf_7cf53 30 = .ok (.invokevirtual 505, 3) := by decide +kernel
theorem dJ0_indexOf_7cf53_33 : decode cJ0_indexOf_7cf53 33 = .ok (.invokestatic 640, 3) := by decide +kernel
theorem dJ0_indexOf_7cf53_36 : decode cJ0_indexOf_7cf53 36 = .ok (.ireturn, 1) := by decide +kernel
theorem dJ0_coder_7d493_0 : decode cJ0_coder_7d493 0 = .ok (.getstatic 38, 3) := by decide +kernel
theorem dJ0_coder_7d493_3 : decode cJ0_coder_7d493 3 = .ok (.ifCond .eq 10, 3) := by decide +kernel
theorem dJ0_coder_7d493_6 : decode cJ0_coder_7d493 6 = .ok (.aload_n 0, 1) := by decide +kernel
theorem dJ0_coder_7d493_7 : decode cJ0_coder_7d493 7 = .ok (.getfield 15, 3) := by decide +kernel
theorem dJ0_coder_7d493_10 : decode cJ0_coder_7d493 10 = .ok (.goto 4, 3) := by decide +kernel
theorem dJ0_coder_7d493_13 : decode cJ0_coder_7d493 13 = .ok (.iconst 1, 1) := by decide +kernel
theorem dJ0_coder_7d493_14 : decode cJ0_coder_7d493 14 = .ok (.ireturn, 1) := by decide +kernel
theorem dJ0_isLatin1_aae02_0 : decode cJ0_isLatin1_aae02 0 = .ok (.getstatic 38, 3) := by decide +kernel
theorem dJ0_isLatin1_aae02_3 : decode cJ0_isLatin1_aae02 3 = .ok (.ifCond .eq 14, 3) := by decide +kernel
theorem dJ0_isLatin1_aae02_6 : decode cJ0_isLatin1_aae02 6 = .ok (.aload_n 0, 1) := by decide +kernel
theorem dJ0_isLatin1_aae02_7 : decode cJ0_isLatin1_aae02 7 = .ok (.getfield 15, 3) := by decide +kernel
theorem dJ0_isLatin1_aae02_10 : decode cJ0_isLatin1_aae02 10 = .ok (.ifCond .ne 7, 3) := by decide +kernel
theorem dJ0_isLatin1_aae02_13 : decode cJ0_isLatin1_aae02 13 = .ok (.iconst 1, 1) := by decide +kernel
theorem dJ0_isLatin1_aae02_14 : decode cJ0_isLatin1_aae02 14 = .ok (.goto 4, 3) := by decide +kernel
theorem dJ0_isLatin1_aae02_17 : decode cJ0_isLatin1_aae02 17 = .ok (.iconst 0, 1) := by decide +kernel
theorem dJ0_isLatin1_aae02_18 : decode cJ0_isLatin1_aae02 18 = .ok (.ireturn, 1) := by decide +kernel
theorem dJ0_checkIndex_df160_0 : decode cJ0_checkIndex_df160 0 = .ok (.iload_n 0, 1) := by decide +kernel
theorem dJ0_checkIndex_df160_1 : decode cJ0_checkIndex_df160 1 = .ok (.iload_n 1, 1) := by decide +kernel
theorem dJ0_checkIndex_df160_2 : decode cJ0_checkIndex_df160 2 = .ok (.getstatic 1053, 3) := by decide +kernel
theorem dJ0_checkIndex_df160_5 : decode cJ0_checkIndex_df160 5 = .ok (.invokestatic 1059, 3) := by decide +kernel
theorem dJ0_checkIndex_df160_8 : decode cJ0_checkIndex_df160 8 = .ok (.pop, 1) := by decide +kernel
theorem dJ0_checkIndex_df160_9 : decode cJ0_checkIndex_df160 9 = .ok (.return_, 1) := by decide +kernel
theorem dJ1_charAt_3b067_0 : decode cJ1_charAt_3b067 0 = .ok (.iload_n 1, 1) := by decide +kernel
theorem dJ1_charAt_3b067_1 : decode cJ1_charAt_3b067 1 = .ok (.aload_n 0, 1) := by decide +kernel
theorem dJ1_charAt_3b067_2 : decode cJ1_charAt_3b067 2 = .ok (.arraylength, 1) := by decide +kernel
theorem dJ1_charAt_3b067_3 : decode cJ1_charAt_3b067 3 = .ok (.invokestatic 9, 3) := by decide +kernel
theorem dJ1_charAt_3b067_6 : decode cJ1_charAt_3b067 6 = .ok (.aload_n 0, 1) := by decide +kernel
theorem dJ1_charAt_3b067_7 : decode cJ1_charAt_3b067 7 = .ok (.iload_n 1, 1) := by decide +kernel
theorem dJ1_charAt_3b067_8 : decode cJ1_charAt_3b067 8 = .ok (.baload, 1) := by decide +kernel
theorem dJ1_charAt_3b067_9 : decode cJ1_charAt_3b067 9 = .ok (.sipush 255, 3) := by decide +kernel
theorem dJ1_charAt_3b067_12 : decode cJ1_charAt_3b067 12 = .ok (.iand, 1) := by decide +kernel
theorem dJ1_charAt_3b067_13 : decode cJ1_charAt_3b067 13 = .ok (.i2c, 1) := by decide +kernel
theorem dJ1_charAt_3b067_14 : decode cJ1_charAt_3b067 14 = .ok (.ireturn, 1) := by decide +kernel
theorem dJ1_canEncode_9a6ad_0 : decode cJ1_canEncode_9a6ad 0 = .ok (.iload_n 0, 1) := by decide +kernel
theorem dJ1_canEncode_9a6ad_1 : decode cJ1_canEncode_9a6ad 1 = .ok (.ifCond .lt 14, 3) := by decide +kernel
theorem dJ1_canEncode_9a6ad_4 : decode cJ1_canEncode_9a6ad 4 = .ok (.iload_n 0, 1) := by decide +kernel
theorem dJ1_canEncode_9a6ad_5 : decode cJ1_canEncode_9a6ad 5 = .ok (.sipush 255, 3) := by decide +kernel
theorem dJ1_canEncode_9a6ad_8 : decode cJ1_canEncode_9a6ad 8 = .ok (.if_icmp .gt 7, 3) := by decide +kernel
theorem dJ1_canEncode_9a6ad_11 : decode cJ1_canEncode_9a6ad 11 = .ok (.iconst 1, 1) := by decide +kernel
theorem dJ1_canEncode_9a6ad_12 : decode cJ1_canEncode_9a6ad 12 = .ok (.goto 4, 3) := by decide +kernel
theorem dJ1_canEncode_9a6ad_15 : decode cJ1_canEncode_9a6ad 15 = .ok (.iconst 0, 1) := by decide +kernel
theorem dJ1_canEncode_9a6ad_16 : decode cJ1_canEncode_9a6ad 16 = .ok (.ireturn, 1) := by decide +kernel
theorem dJ1_indexOf_4cfef_0 : decode cJ1_indexOf_4cfef 0 = .ok (.iload_n 1, 1) := by decide +kernel
theorem dJ1_indexOf_4cfef_1 : decode cJ1_indexOf_4cfef 1 = .ok (.invokestatic 88, 3) := by decide +kernel
theorem dJ1_indexOf_4cfef_4 : decode cJ1_indexOf_4cfef 4 = .ok (.ifCond .ne 5, 3) := by decide +kernel
theorem dJ1_indexOf_4cfef_7 : decode cJ1_indexOf_4cfef 7 = .ok (.iconst (-1), 1) := by decide +kernel
theorem dJ1_indexOf_4cfef_8 : decode cJ1_indexOf_4cfef 8 = .ok (.ireturn, 1) := by decide +kernel
theorem dJ1_indexOf_4cfef_9 : decode cJ1_indexOf_4cfef 9 = .ok (.iload_n 2, 1) := by decide +kernel
theorem dJ1_indexOf_4cfef_10 : decode cJ1_indexOf_4cfef 10 = .ok (.iconst 0, 1) := by decide +kernel
theorem dJ1_indexOf_4cfef_11 : decode cJ1_indexOf_4cfef 11 = .ok (.invokestatic 92, 3) := by decide +kernel
theorem dJ1_indexOf_4cfef_14 : decode cJ1_indexOf_4cfef 14 = .ok (.istore_n 2, 1) := by decide +kernel
theorem dJ1_indexOf_4cfef_15 : decode cJ1_indexOf_4cfef 15 = .ok (.iload_n 3, 1) := by decide +kernel
theorem dJ1_indexOf_4cfef_16 : decode cJ1_indexOf_4cfef 16 = .ok (.aload_n 0, 1) := by decide +kernel
theorem dJ1_indexOf_4cfef_17 : decode cJ1_indexOf_4cfef 17 = .ok (.arraylength, 1) := by decide +kernel
theorem dJ1_indexOf_4cfef_18 : decode cJ1_indexOf_4cfef 18 = .ok (.invokestatic 38, 3) := by decide +kernel
theorem dJ1_indexOf_4cfef_21 : decode cJ1_indexOf_4cfef 21 = .ok (.istore_n 3, 1) := by decide +kernel
theorem dJ1_indexOf_4cfef_22 : decode cJ1_indexOf_4cfef 22 = .ok (.iload_n 2, 1) := by decide +kernel
theorem dJ1_indexOf_4cfef_23 : decode cJ1_indexOf_4cfef 23 = .ok (.iload_n 3, 1) := by decide +kernel
theorem dJ1_indexOf_4cfef_24 : decode cJ1_indexOf_4cfef 24 = .ok (.if_icmp .lt 5, 3) := by decide +kernel
theorem dJ1_indexOf_4cfef_27 : decode cJ1_indexOf_4cfef 27 = .ok (.iconst (-1), 1) := by decide +kernel
theorem dJ1_indexOf_4cfef_28 : decode cJ1_indexOf_4cfef 28 = .ok (.ireturn, 1) := by decide +kernel
theorem dJ1_indexOf_4cfef_29 : decode cJ1_indexOf_4cfef 29 = .ok (.aload_n 0, 1) := by decide +kernel
theorem dJ1_indexOf_4cfef_30 : decode cJ1_indexOf_4cfef 30 = .ok (.iload_n 1, 1) := by decide +kernel
theorem dJ1_indexOf_4cfef_31 : decode cJ1_indexOf_4cfef 31 = .ok (.iload_n 2, 1) := by decide +kernel
theorem dJ1_indexOf_4cfef_32 : decode cJ1_indexOf_4cfef 32 = .ok (.iload_n 3, 1) := by decide +kernel
theorem dJ1_indexOf_4cfef_33 : decode cJ1_indexOf_4cfef 33 = .ok (.invokestatic 95, 3) := by decide +kernel
theorem dJ1_indexOf_4cfef_36 : decode cJ1_indexOf_4cfef 36 = .ok (.ireturn, 1) := by decide +kernel
theorem dJ1_indexOfChar_4cfef_0 : decode cJ1_indexOfChar_4cfef 0 = .ok (.iload_n 1, 1) := by decide +kernel
theorem dJ1_indexOfChar_4cfef_1 : decode cJ1_indexOfChar_4cfef 1 = .ok (.i2b, 1) := by decide +kernel
theorem dJ1_indexOfChar_4cfef_2 : decode cJ1_indexOfChar_4cfef 2 = .ok (.istore 4, 2) := by decide +kernel
theorem dJ1_indexOfChar_4cfef_4 : decode cJ1_indexOfChar_4cfef 4 = .ok (.iload_n 2, 1) := by decide +kernel
theorem dJ1_indexOfChar_4cfef_5 : decode cJ1_indexOfChar_4cfef 5 = .ok (.istore 5, 2) := by decide +kernel
theorem dJ1_indexOfChar_4cfef_7 : decode cJ1_indexOfChar_4cfef 7 = .ok (.iload 5, 2) := by decide +kernel
theorem dJ1_indexOfChar_4cfef_9 : decode cJ1_indexOfChar_4cfef 9 = .ok (.iload_n 3, 1) := by decide +kernel
theorem dJ1_indexOfChar_4cfef_10 : decode cJ1_indexOfChar_4cfef 10 = .ok (.if_icmp .ge 21, 3) := by decide +kernel
theorem dJ1_indexOfChar_4cfef_13 : decode cJ1_indexOfChar_4cfef 13 = .ok (.aload_n 0, 1) := by decide +kernel
theorem dJ1_indexOfChar_4cfef_14 : decode cJ1_indexOfChar_4cfef 14 = .ok (.iload 5, 2) := by decide +kernel
theorem dJ1_indexOfChar_4cfef_16 : decode cJ1_indexOfChar_4cfef 16 = .ok (.baload, 1) := by decide +kernel
theorem dJ1_indexOfChar_4cfef_17 : decode cJ1_indexOfChar_4cfef 17 = .ok (.iload 4, 2) := by decide +kernel
theorem dJ1_indexOfChar_4cfef_19 : decode cJ1_indexOfChar_4cfef 19 = .ok (.if_icmp .ne 6, 3) := by decide +kernel
theorem dJ1_indexOfChar_4cfef_22 : decode cJ1_indexOfChar_4cfef 22 = .ok (.iload 5, 2) := by decide +kernel
theorem dJ1_indexOfChar_4cfef_24 : decode cJ1_indexOfChar_4cfef 24 = .ok (.ireturn, 1) := by decide +kernel
theorem dJ1_indexOfChar_4cfef_25 : decode cJ1_indexOfChar_4cfef 25 = .ok (.iinc 5 1, 3) := by decide +kernel
theorem dJ1_indexOfChar_4cfef_28 : decode cJ1_indexOfChar_4cfef 28 = .ok (.goto (-21), 3) := by decide +kernel
theorem dJ1_indexOfChar_4cfef_31 : decode cJ1_indexOfChar_4cfef 31 = .ok (.iconst (-1), 1) := by decide +kernel
theorem dJ1_indexOfChar_4cfef_32 : decode cJ1_indexOfChar_4cfef 32 = .ok (.ireturn, 1) := by decide +kernel
theorem dJ7_fill_53178_0 : decode cJ7_fill_53178 0 = .ok (.iconst 0, 1) := by decide +kernel
theorem dJ7_fill_53178_1 : decode cJ7_fill_53178 1 = .ok (.istore_n 2, 1) := by decide +kernel
theorem dJ7_fill_53178_2 : decode cJ7_fill_53178 2 = .ok (.aload_n 0, 1) := by decide +kernel
theorem dJ7_fill_53178_3 : decode cJ7_fill_53178 3 = .ok (.arraylength, 1) := by decide +kernel
theorem dJ7_fill_53178_4 : decode cJ7_fill_53178 4 = .ok (.istore_n 3, 1) := by decide +kernel
theorem dJ7_fill_53178_5 : decode cJ7_fill_53178 5 = .ok (.iload_n 2, 1) := by decide +kernel
theorem dJ7_fill_53178_6 : decode cJ7_fill_53178 6 = .ok (.iload_n 3, 1) := by decide +kernel
theorem dJ7_fill_53178_7 : decode cJ7_fill_53178 7 = .ok (.if_icmp .ge 13, 3) := by decide +kernel
theorem dJ7_fill_53178_10 : decode cJ7_fill_53178 10 = .ok (.aload_n 0, 1) := by decide +kernel
theorem dJ7_fill_53178_11 : decode cJ7_fill_53178 11 = .ok (.iload_n 2, 1) := by decide +kernel
theorem dJ7_fill_53178_12 : decode cJ7_fill_53178 12 = .ok (.iload_n 1, 1) := by decide +kernel
theorem dJ7_fill_53178_13 : decode cJ7_fill_53178 13 = .ok (.iastore, 1) := by decide +kernel
theorem dJ7_fill_53178_14 : decode cJ7_fill_53178 14 = .ok (.iinc 2 1, 3) := by decide +kernel
theorem dJ7_fill_53178_17 : decode cJ7_fill_53178 17 = .ok (.goto (-12), 3) := by decide +kernel
theorem dJ7_fill_53178_20 : decode cJ7_fill_53178 20 = .ok (.return_, 1) := by decide +kernel
theorem dJ3_checkIndex_8e157_0 : decode cJ3_checkIndex_8e157 0 = .ok (.iload_n 0, 1) := by decide +kernel
theorem dJ3_checkIndex_8e157_1 : decode cJ3_checkIndex_8e157 1 = .ok (.ifCond .lt 8, 3) := by decide +kernel
theorem dJ3_checkIndex_8e157_4 : decode cJ3_checkIndex_8e157 4 = .ok (.iload_n 0, 1) := by decide +kernel
theorem dJ3_checkIndex_8e157_5 : decode cJ3_checkIndex_8e157 5 = .ok (.iload_n 1, 1) := by decide +kernel
theorem dJ3_checkIndex_8e157_6 : decode cJ3_checkIndex_8e157 6 = .ok (.if_icmp .lt 10, 3) := by decide +kernel
theorem dJ3_checkIndex_8e157_9 : decode cJ3_checkIndex_8e157 9 = .ok (.aload_n 2, 1) := by decide +kernel
theorem dJ3_checkIndex_8e157_10 : decode cJ3_checkIndex_8e157 10 = .ok (.iload_n 0, 1) := by decide +kernel
theorem dJ3_checkIndex_8e157_11 : decode cJ3_checkIndex_8e157 11 = .ok (.iload_n 1, 1) := by decide +kernel
theorem dJ3_checkIndex_8e157_12 : decode cJ3_checkIndex_8e157 12 = .ok (.invokestatic 95, 3) := by decide +kernel
theorem dJ3_checkIndex_8e157_15 : decode cJ3_checkIndex_8e157 15 = .ok (.athrow, 1) := by decide +kernel
theorem dJ3_checkIndex_8e157_16 : decode cJ3_checkIndex_8e157 16 = .ok (.iload_n 0, 1) := by decide +kernel
theorem dJ3_checkIndex_8e157_17 : decode cJ3_checkIndex_8e157 17 = .ok (.ireturn, 1) := by decide +kernel
theorem dL_law_0 : decode cL_law 0 = .ok (.new 7, 3) := by decide +kernel
theorem dL_law_3 : decode cL_law 3 = .ok (.dup, 1) := by decide +kernel
theorem dL_law_4 : decode cL_law 4 = .ok (.invokespecial 9, 3) := by decide +kernel
theorem dL_law_7 : decode cL_law 7 = .ok (.astore_n 1, 1) := by decide +kernel
theorem dL_law_8 : decode cL_law 8 = .ok (.new 10, 3) := by decide +kernel
theorem dL_law_11 : decode cL_law 11 = .ok (.dup, 1) := by decide +kernel
theorem dL_law_12 : decode cL_law 12 = .ok (.invokespecial 12, 3) := by decide +kernel
theorem dL_law_15 : decode cL_law 15 = .ok (.astore_n 2, 1) := by decide +kernel
theorem dL_law_16 : decode cL_law 16 = .ok (.iconst 0, 1) := by decide +kernel
theorem dL_law_17 : decode cL_law 17 = .ok (.istore_n 3, 1) := by decide +kernel
theorem dL_law_18 : decode cL_law 18 = .ok (.iload_n 3, 1) := by decide +kernel
theorem dL_law_19 : decode cL_law 19 = .ok (.aload_n 0, 1) := by decide +kernel
theorem dL_law_20 : decode cL_law 20 = .ok (.arraylength, 1) := by decide +kernel
theorem dL_law_21 : decode cL_law 21 = .ok (.bipush 6, 2) := by decide +kernel
theorem dL_law_23 : decode cL_law 23 = .ok (.isub, 1) := by decide +kernel
theorem dL_law_24 : decode cL_law 24 = .ok (.if_icmp .gt 1146, 3) := by decide +kernel
theorem dL_law_27 : decode cL_law 27 = .ok (.aload_n 0, 1) := by decide +kernel
theorem dL_law_28 : decode cL_law 28 = .ok (.iload_n 3, 1) := by decide +kernel
theorem dL_law_29 : decode cL_law 29 = .ok (.iaload, 1) := by decide +kernel
theorem dL_law_30 : decode cL_law 30 = .ok (.bipush 63, 2) := by decide +kernel
theorem dL_law_32 : decode cL_law 32 = .ok (.iand, 1) := by decide +kernel
theorem dL_law_33 : decode cL_law 33 = .ok (.tableswitch 1131 0 34 #[155, 218, 241, 254, 277, 300, 343, 376, 409, 442, 486, 519, 552, 585, 618, 641, 684, 717, 750, 763, 786, 799, 822, 855, 878, 901, 934, 967, 990, 1003, 1026, 1059, 1072, 1095, 1108], 155) := by decide +kernel
theorem dL_law_188 : decode cL_law 188 = .ok (.aload_n 1, 1) := by decide +kernel
theorem dL_law_189 : decode cL_law 189 = .ok (.aload_n 0, 1) := by decide +kernel
theorem dL_law_190 : decode cL_law 190 = .ok (.iload_n 3, 1) := by decide +kernel
theorem dL_law_191 : decode cL_law 191 = .ok (.iconst 1, 1) := by decide +kernel
theorem dL_law_192 : decode cL_law 192 = .ok (.iadd, 1) := by decide +kernel
theorem dL_law_193 : decode cL_law 193 = .ok (.iaload, 1) := by decide +kernel
theorem dL_law_194 : decode cL_law 194 = .ok (.aload_n 0, 1) := by decide +kernel
theorem dL_law_195 : decode cL_law 195 = .ok (.iload_n 3, 1) := by decide +kernel
theorem dL_law_196 : decode cL_law 196 = .ok (.iconst 2, 1) := by decide +kernel
theorem dL_law_197 : decode cL_law 197 = .ok (.iadd, 1) := by decide +kernel
theorem dL_law_198 : decode cL_law 198 = .ok (.iaload, 1) := by decide +kernel
theorem dL_law_199 : decode cL_law 199 = .ok (.aload_n 0, 1) := by decide +kernel
theorem dL_law_200 : decode cL_law 200 = .ok (.iload_n 3, 1) := by decide +kernel
theorem dL_law_201 : decode cL_law 201 = .ok (.iconst 3, 1) := by decide +kernel
theorem dL_law_202 : decode cL_law 202 = .ok (.iadd, 1) := by decide +kernel
theorem dL_law_203 : decode cL_law 203 = .ok (.iaload, 1) := by decide +kernel
theorem dL_law_204 : decode cL_law 204 = .ok (.aload_n 0, 1) := by decide +kernel
theorem dL_law_205 : decode cL_law 205 = .ok (.iload_n 3, 1) := by decide +kernel
theorem dL_law_206 : decode cL_law 206 = .ok (.iconst 4, 1) := by decide +kernel
theorem dL_law_207 : decode cL_law 207 = .ok (.iadd, 1) := by decide +kernel
theorem dL_law_208 : decode cL_law 208 = .ok (.iaload, 1) := by decide +kernel
theorem dL_law_209 : decode cL_law 209 = .ok (.aload_n 0, 1) := by decide +kernel
theorem dL_law_210 : decode cL_law 210 = .ok (.iload_n 3, 1) := by decide +kernel
theorem dL_law_211 : decode cL_law 211 = .ok (.iconst 5, 1) := by decide +kernel
theorem dL_law_212 : decode cL_law 212 = .ok (.iadd, 1) := by decide +kernel
theorem dL_law_213 : decode cL_law 213 = .ok (.iaload, 1) := by decide +kernel
theorem dL_law_214 : decode cL_law 214 = .ok (.invokevirtual 13, 3) := by decide +kernel
theorem dL_law_217 : decode cL_law 217 = .ok (.aload_n 2, 1) := by decide +kernel
theorem dL_law_218 : decode cL_law 218 = .ok (.aload_n 0, 1) := by decide +kernel
theorem dL_law_219 : decode cL_law 219 = .ok (.iload_n 3, 1) := by decide +kernel
theorem dL_law_220 : decode cL_law 220 = .ok (.iconst 1, 1) := by decide +kernel
theorem dL_law_221 : decode cL_law 221 = .ok (.iadd, 1) := by decide +kernel
theorem dL_law_222 : decode cL_law 222 = .ok (.iaload, 1) := by decide +kernel
theorem dL_law_223 : decode cL_law 223 = .ok (.aload_n 0, 1) := by decide +kernel
theorem dL_law_224 : decode cL_law 224 = .ok (.iload_n 3, 1) := by decide +kernel
theorem dL_law_225 : decode cL_law 225 = .ok (.iconst 2, 1) := by decide +kernel
theorem dL_law_226 : decode cL_law 226 = .ok (.iadd, 1) := by decide +kernel
theorem dL_law_227 : decode cL_law 227 = .ok (.iaload, 1) := by decide +kernel
theorem dL_law_228 : decode cL_law 228 = .ok (.aload_n 0, 1) := by decide +kernel
theorem dL_law_229 : decode cL_law 229 = .ok (.iload_n 3, 1) := by decide +kernel
theorem dL_law_230 : decode cL_law 230 = .ok (.iconst 3, 1) := by decide +kernel
theorem dL_law_231 : decode cL_law 231 = .ok (.iadd, 1) := by decide +kernel
theorem dL_law_232 : decode cL_law 232 = .ok (.iaload, 1) := by decide +kernel
theorem dL_law_233 : decode cL_law 233 = .ok (.aload_n 0, 1) := by decide +kernel
theorem dL_law_234 : decode cL_law 234 = .ok (.iload_n 3, 1) := by decide +kernel
theorem dL_law_235 : decode cL_law 235 = .ok (.iconst 4, 1) := by decide +kernel
theorem dL_law_236 : decode cL_law 236 = .ok (.iadd, 1) := by decide +kernel
theorem dL_law_237 : decode cL_law 237 = .ok (.iaload, 1) := by decide +kernel
theorem dL_law_238 : decode cL_law 238 = .ok (.aload_n 0, 1) := by decide +kernel
theorem dL_law_239 : decode cL_law 239 = .ok (.iload_n 3, 1) := by decide +kernel
theorem dL_law_240 : decode cL_law 240 = .ok (.iconst 5, 1) := by decide +kernel
theorem dL_law_241 : decode cL_law 241 = .ok (.iadd, 1) := by decide +kernel
theorem dL_law_242 : decode cL_law 242 = .ok (.iaload, 1) := by decide +kernel
theorem dL_law_243 : decode cL_law 243 = .ok (.invokevirtual 17, 3) := by decide +kernel
theorem dL_law_246 : decode cL_law 246 = .ok (.if_icmp .eq 918, 3) := by decide +kernel
theorem dL_law_249 : decode cL_law 249 = .ok (.iconst 0, 1) := by decide +kernel
theorem dL_law_250 : decode cL_law 250 = .ok (.ireturn, 1) := by decide +kernel
theorem dL_law_251 : decode cL_law 251 = .ok (.aload_n 1, 1) := by decide +kernel
theorem dL_law_252 : decode cL_law 252 = .ok (.aload_n 0, 1) := by decide +kernel
theorem dL_law_253 : decode cL_law 253 = .ok (.iload_n 3, 1) := by decide +kernel
theorem dL_law_254 : decode cL_law 254 = .ok (.iconst 1, 1) := by decide +kernel
theorem dL_law_255 : decode cL_law 255 = .ok (.iadd, 1) := by decide +kernel
theorem dL_law_256 : decode cL_law 256 = .ok (.iaload, 1) := by decide +kernel
theorem dL_law_257 : decode cL_law 257 = .ok (.invokevirtual 18, 3) := by decide +kernel
theorem dL_law_260 : decode cL_law 260 = .ok (.aload_n 2, 1) := by decide +kernel
theorem dL_law_261 : decode cL_law 261 = .ok (.aload_n 0, 1) := by decide +kernel
theorem dL_law_262 : decode cL_law 262 = .ok (.iload_n 3, 1) := by decide +kernel
theorem dL_law_263 : decode cL_law 263 = .ok (.iconst 1, 1) := by decide +kernel
theorem dL_law_264 : decode cL_law 264 = .ok (.iadd, 1) := by decide +kernel
theorem dL_law_265 : decode cL_law 265 = .ok (.iaload, 1) := by decide +kernel
theorem dL_law_266 : decode cL_law 266 = .ok (.invokevirtual 22, 3) := by decide +kernel
theorem dL_law_269 : decode cL_law 269 = .ok (.if_icmp .eq 895, 3) := by decide +kernel
theorem dL_law_272 : decode cL_law 272 = .ok (.iconst 0, 1) := by decide +kernel
theorem dL_law_273 : decode cL_law 273 = .ok (.ireturn, 1) := by decide +kernel
theorem dL_law_274 : decode cL_law 274 = .ok (.aload_n 1, 1) := by decide +kernel
theorem dL_law_275 : decode cL_law 275 = .ok (.invokevirtual 23, 3) := by decide +kernel
theorem dL_law_278 : decode cL_law 278 = .ok (.aload_n 2, 1) := by decide +kernel
theorem dL_law_279 : decode cL_law 279 = .ok (.invokevirtual 27, 3) := by decide +kernel
theorem dL_law_282 : decode cL_law 282 = .ok (.if_icmp .eq 882, 3) := by decide +kernel
theorem dL_law_285 : decode cL_law 285 = .ok (.iconst 0, 1) := by decide +kernel
theorem dL_law_286 : decode cL_law 286 = .ok (.ireturn, 1) := by decide +kernel
theorem dL_law_287 : decode cL_law 287 = .ok (.aload_n 1, 1) := by decide +kernel
theorem dL_law_288 : decode cL_law 288 = .ok (.aload_n 0, 1) := by decide +kernel
theorem dL_law_289 : decode cL_law 289 = .ok (.iload_n 3, 1) := by decide +kernel
theorem dL_law_290 : decode cL_law 290 = .ok (.iconst 1, 1) := by decide +kernel
theorem dL_law_291 : decode cL_law 291 = .ok (.iadd, 1) := by decide +kernel
theorem dL_law_292 : decode cL_law 292 = .ok (.iaload, 1) := by decide +kernel
theorem dL_law_293 : decode cL_law 293 = .ok (.invokevirtual 28, 3) := by decide +kernel
theorem dL_law_296 : decode cL_law 296 = .ok (.aload_n 2, 1) := by decide +kernel
theorem dL_law_297 : decode cL_law 297 = .ok (.aload_n 0, 1) := by decide +kernel
theorem dL_law_298 : decode cL_law 298 = .ok (.iload_n 3, 1) := by decide +kernel
theorem dL_law_299 : decode cL_law 299 = .ok (.iconst 1, 1) := by decide +kernel
theorem dL_law_300 : decode cL_law 300 = .ok (.iadd, 1) := by decide +kernel
theorem dL_law_301 : decode cL_law 301 = .ok (.iaload, 1) := by decide +kernel
theorem dL_law_302 : decode cL_law 302 = .ok (.invokevirtual 32, 3) := by decide +kernel
theorem dL_law_305 : decode cL_law 305 = .ok (.if_icmp .eq 859, 3) := by decide +kernel
theorem dL_law_308 : decode cL_law 308 = .ok (.iconst 0, 1) := by decide +kernel
theorem dL_law_309 : decode cL_law 309 = .ok (.ireturn, 1) := by decide +kernel
theorem dL_law_310 : decode cL_law 310 = .ok (.aload_n 1, 1) := by decide +kernel
theorem dL_law_311 : decode cL_law 311 = .ok (.aload_n 0, 1) := by decide +kernel
theorem dL_law_312 : decode cL_law 312 = .ok (.iload_n 3, 1) := by decide +kernel
theorem dL_law_313 : decode cL_law 313 = .ok (.iconst 1, 1) := by decide +kernel
theorem dL_law_314 : decode cL_law 314 = .ok (.iadd, 1) := by decide +kernel
theorem dL_law_315 : decode cL_law 315 = .ok (.iaload, 1) := by decide +kernel
theorem dL_law_316 : decode cL_law 316 = .ok (.invokevirtual 33, 3) := by decide +kernel
theorem dL_law_319 : decode cL_law 319 = .ok (.aload_n 2, 1) := by decide +kernel
theorem dL_law_320 : decode cL_law 320 = .ok (.aload_n 0, 1) := by decide +kernel
theorem dL_law_321 : decode cL_law 321 = .ok (.iload_n 3, 1) := by decide +kernel
theorem dL_law_322 : decode cL_law 322 = .ok (.iconst 1, 1) := by decide +kernel
theorem dL_law_323 : decode cL_law 323 = .ok (.iadd, 1) := by decide +kernel
theorem dL_law_324 : decode cL_law 324 = .ok (.iaload, 1) := by decide +kernel
theorem dL_law_325 : decode cL_law 325 = .ok (.invokevirtual 36, 3) := by decide +kernel
theorem dL_law_328 : decode cL_law 328 = .ok (.if_icmp .eq 836, 3) := by decide +kernel
theorem dL_law_331 : decode cL_law 331 = .ok (.iconst 0, 1) := by decide +kernel
theorem dL_law_332 : decode cL_law 332 = .ok (.ireturn, 1) := by decide +kernel
theorem dL_law_333 : decode cL_law 333 = .ok (.aload_n 1, 1) := by decide +kernel
theorem dL_law_334 : decode cL_law 334 = .ok (.aload_n 0, 1) := by decide +kernel
theorem dL_law_335 : decode cL_law 335 = .ok (.iload_n 3, 1) := by decide +kernel
theorem dL_law_336 : decode cL_law 336 = .ok (.iconst 1, 1) := by decide +kernel
theorem dL_law_337 : decode cL_law 337 = .ok (.iadd, 1) := by decide +kernel
theorem dL_law_338 : decode cL_law 338 = .ok (.iaload, 1) := by decide +kernel
theorem dL_law_339 : decode cL_law 339 = .ok (.aload_n 0, 1) := by decide +kernel
theorem dL_law_340 : decode cL_law 340 = .ok (.iload_n 3, 1) := by decide +kernel
theorem dL_law_341 : decode cL_law 341 = .ok (.iconst 2, 1) := by decide +kernel
theorem dL_law_342 : decode cL_law 342 = .ok (.iadd, 1) := by decide +kernel
theorem dL_law_343 : decode cL_law 343 = .ok (.iaload, 1) := by decide +kernel
theorem dL_law_344 : decode cL_law 344 = .ok (.aload_n 0, 1) := by decide +kernel
theorem dL_law_345 : decode cL_law 345 = .ok (.iload_n 3, 1) := by decide +kernel
theorem dL_law_346 : decode cL_law 346 = .ok (.iconst 3, 1) := by decide +kernel
theorem dL_law_347 : decode cL_law 347 = .ok (.iadd, 1) := by decide +kernel
theorem dL_law_348 : decode cL_law 348 = .ok (.iaload, 1) := by decide +kernel
theorem dL_law_349 : decode cL_law 349 = .ok (.invokevirtual 37, 3) := by decide +kernel
theorem dL_law_352 : decode cL_law 352 = .ok (.aload_n 2, 1) := by decide +kernel
theorem dL_law_353 : decode cL_law 353 = .ok (.aload_n 0, 1) := by decide +kernel
theorem dL_law_354 : decode cL_law 354 = .ok (.iload_n 3, 1) := by decide +kernel
theorem dL_law_355 : decode cL_law 355 = .ok (.iconst 1, 1) := by decide +kernel
theorem dL_law_356 : decode cL_law 356 = .ok (.iadd, 1) := by decide +kernel
theorem dL_law_357 : decode cL_law 357 = .ok (.iaload, 1) := by decide +kernel
theorem dL_law_358 : decode cL_law 358 = .ok (.aload_n 0, 1) := by decide +kernel
theorem dL_law_359 : decode cL_law 359 = .ok (.iload_n 3, 1) := by decide +kernel
theorem dL_law_360 : decode cL_law 360 = .ok (.iconst 2, 1) := by decide +kernel
theorem dL_law_361 : decode cL_law 361 = .ok (.iadd, 1) := by decide +kernel
theorem dL_law_362 : decode cL_law 362 = .ok (.iaload, 1) := by decide +kernel
theorem dL_law_363 : decode cL_law 363 = .ok (.aload_n 0, 1) := by decide +kernel
theorem dL_law_364 : decode cL_law 364 = .ok (.iload_n 3, 1) := by decide +kernel
theorem dL_law_365 : decode cL_law 365 = .ok (.iconst 3, 1) := by decide +kernel
theorem dL_law_366 : decode cL_law 366 = .ok (.iadd, 1) := by decide +kernel
theorem dL_law_367 : decode cL_law 367 = .ok (.iaload, 1) := by decide +kernel
theorem dL_law_368 : decode cL_law 368 = .ok (.invokevirtual 41, 3) := by decide +kernel
theorem dL_law_371 : decode cL_law 371 = .ok (.if_icmp .eq 793, 3) := by decide +kernel
theorem dL_law_374 : decode cL_law 374 = .ok (.iconst 0, 1) := by decide +kernel
theorem dL_law_375 : decode cL_law 375 = .ok (.ireturn, 1) := by decide +kernel
theorem dL_law_376 : decode cL_law 376 = .ok (.aload_n 1, 1) := by decide +kernel
theorem dL_law_377 : decode cL_law 377 = .ok (.aload_n 0, 1) := by decide +kernel
theorem dL_law_378 : decode cL_law 378 = .ok (.iload_n 3, 1) := by decide +kernel
theorem dL_law_379 : decode cL_law 379 = .ok (.iconst 1, 1) := by decide +kernel
theorem dL_law_380 : decode cL_law 380 = .ok (.iadd, 1) := by decide +kernel
theorem dL_law_381 : decode cL_law 381 = .ok (.iaload, 1) := by decide +kernel
theorem dL_law_382 : decode cL_law 382 = .ok (.aload_n 0, 1) := by decide +kernel
theorem dL_law_383 : decode cL_law 383 = .ok (.iload_n 3, 1) := by decide +kernel
theorem dL_law_384 : decode cL_law 384 = .ok (.iconst 2, 1) := by decide +kernel
theorem dL_law_385 : decode cL_law 385 = .ok (.iadd, 1) := by decide +kernel
theorem dL_law_386 : decode cL_law 386 = .ok (.iaload, 1) := by decide +kernel
theorem dL_law_387 : decode cL_law 387 = .ok (.invokevirtual 42, 3) := by decide +kernel
theorem dL_law_390 : decode cL_law 390 = .ok (.aload_n 2, 1) := by decide +kernel
theorem dL_law_391 : decode cL_law 391 = .ok (.aload_n 0, 1) := by decide +kernel
theorem dL_law_392 : decode cL_law 392 = .ok (.iload_n 3, 1) := by decide +kernel
theorem dL_law_393 : decode cL_law 393 = .ok (.iconst 1, 1) := by decide +kernel
theorem dL_law_394 : decode cL_law 394 = .ok (.iadd, 1) := by decide +kernel
theorem dL_law_395 : decode cL_law 395 = .ok (.iaload, 1) := by decide +kernel
theorem dL_law_396 : decode cL_law 396 = .ok (.aload_n 0, 1) := by decide +kernel
theorem dL_law_397 : decode cL_law 397 = .ok (.iload_n 3, 1) := by decide +kernel
theorem dL_law_398 : decode cL_law 398 = .ok (.iconst 2, 1) := by decide +kernel
theorem dL_law_399 : decode cL_law 399 = .ok (.iadd, 1) := by decide +kernel
theorem dL_law_400 : decode cL_law 400 = .ok (.iaload, 1) := by decide +kernel
theorem dL_law_401 : decode cL_law 401 = .ok (.invokevirtual 46, 3) := by decide +kernel
theorem dL_law_404 : decode cL_law 404 = .ok (.if_icmp .eq 760, 3) := by decide +kernel
theorem dL_law_407 : decode cL_law 407 = .ok (.iconst 0, 1) := by decide +kernel
theorem dL_law_408 : decode cL_law 408 = .ok (.ireturn, 1) := by decide +kernel
theorem dL_law_409 : decode cL_law 409 = .ok (.aload_n 1, 1) := by decide +kernel
theorem dL_law_410 : decode cL_law 410 = .ok (.aload_n 0, 1) := by decide +kernel
theorem dL_law_411 : decode cL_law 411 = .ok (.iload_n 3, 1) := by decide +kernel
theorem dL_law_412 : decode cL_law 412 = .ok (.iconst 1, 1) := by decide +kernel
theorem dL_law_413 : decode cL_law 413 = .ok (.iadd, 1) := by decide +kernel
theorem dL_law_414 : decode cL_law 414 = .ok (.iaload, 1) := by decide +kernel
theorem dL_law_415 : decode cL_law 415 = .ok (.aload_n 0, 1) := by decide +kernel
theorem dL_law_416 : decode cL_law 416 = .ok (.iload_n 3, 1) := by decide +kernel
theorem dL_law_417 : decode cL_law 417 = .ok (.iconst 2, 1) := by decide +kernel
theorem dL_law_418 : decode cL_law 418 = .ok (.iadd, 1) := by decide +kernel
theorem dL_law_419 : decode cL_law 419 = .ok (.iaload, 1) := by decide +kernel
theorem dL_law_420 : decode cL_law 420 = .ok (.invokevirtual 47, 3) := by decide +kernel
theorem dL_law_423 : decode cL_law 423 = .ok (.aload_n 2, 1) := by decide +kernel
theorem dL_law_424 : decode cL_law 424 = .ok (.aload_n 0, 1) := by decide +kernel
theorem dL_law_425 : decode cL_law 425 = .ok (.iload_n 3, 1) := by decide +kernel
theorem dL_law_426 : decode cL_law 426 = .ok (.iconst 1, 1) := by decide +kernel
theorem dL_law_427 : decode cL_law 427 = .ok (.iadd, 1) := by decide +kernel
theorem dL_law_428 : decode cL_law 428 = .ok (.iaload, 1) := by decide +kernel
theorem dL_law_429 : decode cL_law 429 = .ok (.aload_n 0, 1) := by decide +kernel
theorem dL_law_430 : decode cL_law 430 = .ok (.iload_n 3, 1) := by decide +kernel
theorem dL_law_431 : decode cL_law 431 = .ok (.iconst 2, 1) := by decide +kernel
theorem dL_law_432 : decode cL_law 432 = .ok (.iadd, 1) := by decide +kernel
theorem dL_law_433 : decode cL_law 433 = .ok (.iaload, 1) := by decide +kernel
theorem dL_law_434 : decode cL_law 434 = .ok (.invokevirtual 50, 3) := by decide +kernel
theorem dL_law_437 : decode cL_law 437 = .ok (.if_icmp .eq 727, 3) := by decide +kernel
theorem dL_law_440 : decode cL_law 440 = .ok (.iconst 0, 1) := by decide +kernel
theorem dL_law_441 : decode cL_law 441 = .ok (.ireturn, 1) := by decide +kernel
theorem dL_law_442 : decode cL_law 442 = .ok (.aload_n 1, 1) := by decide +kernel
theorem dL_law_443 : decode cL_law 443 = .ok (.aload_n 0, 1) := by decide +kernel
theorem dL_law_444 : decode cL_law 444 = .ok (.iload_n 3, 1) := by decide +kernel
theorem dL_law_445 : decode cL_law 445 = .ok (.iconst 1, 1) := by decide +kernel
theorem dL_law_446 : decode cL_law 446 = .ok (.iadd, 1) := by decide +kernel
theorem dL_law_447 : decode cL_law 447 = .ok (.iaload, 1) := by decide +kernel
theorem dL_law_448 : decode cL_law 448 = .ok (.aload_n 0, 1) := by decide +kernel
theorem dL_law_449 : decode cL_law 449 = .ok (.iload_n 3, 1) := by decide +kernel
theorem dL_law_450 : decode cL_law 450 = .ok (.iconst 2, 1) := by decide +kernel
theorem dL_law_451 : decode cL_law 451 = .ok (.iadd, 1) := by decide +kernel
theorem dL_law_452 : decode cL_law 452 = .ok (.iaload, 1) := by decide +kernel
theorem dL_law_453 : decode cL_law 453 = .ok (.invokevirtual 51, 3) := by decide +kernel
theorem dL_law_456 : decode cL_law 456 = .ok (.aload_n 2, 1) := by decide +kernel
theorem dL_law_457 : decode cL_law 457 = .ok (.aload_n 0, 1) := by decide +kernel
theorem dL_law_458 : decode cL_law 458 = .ok (.iload_n 3, 1) := by decide +kernel
theorem dL_law_459 : decode cL_law 459 = .ok (.iconst 1, 1) := by decide +kernel
theorem dL_law_460 : decode cL_law 460 = .ok (.iadd, 1) := by decide +kernel
theorem dL_law_461 : decode cL_law 461 = .ok (.iaload, 1) := by decide +kernel
theorem dL_law_462 : decode cL_law 462 = .ok (.aload_n 0, 1) := by decide +kernel
theorem dL_law_463 : decode cL_law 463 = .ok (.iload_n 3, 1) := by decide +kernel
theorem dL_law_464 : decode cL_law 464 = .ok (.iconst 2, 1) := by decide +kernel
theorem dL_law_465 : decode cL_law 465 = .ok (.iadd, 1) := by decide +kernel
theorem dL_law_466 : decode cL_law 466 = .ok (.iaload, 1) := by decide +kernel
theorem dL_law_467 : decode cL_law 467 = .ok (.invokevirtual 54, 3) := by decide +kernel
theorem dL_law_470 : decode cL_law 470 = .ok (.if_icmp .eq 694, 3) := by decide +kernel
theorem dL_law_473 : decode cL_law 473 = .ok (.iconst 0, 1) := by decide +kernel
theorem dL_law_474 : decode cL_law 474 = .ok (.ireturn, 1) := by decide +kernel
theorem dL_law_475 : decode cL_law 475 = .ok (.aload_n 1, 1) := by decide +kernel
theorem dL_law_476 : decode cL_law 476 = .ok (.aload_n 0, 1) := by decide +kernel
theorem dL_law_477 : decode cL_law 477 = .ok (.iload_n 3, 1) := by decide +kernel
theorem dL_law_478 : decode cL_law 478 = .ok (.iconst 1, 1) := by decide +kernel
theorem dL_law_479 : decode cL_law 479 = .ok (.iadd, 1) := by decide +kernel
theorem dL_law_480 : decode cL_law 480 = .ok (.iaload, 1) := by decide +kernel
theorem dL_law_481 : decode cL_law 481 = .ok (.aload_n 0, 1) := by decide +kernel
theorem dL_law_482 : decode cL_law 482 = .ok (.iload_n 3, 1) := by decide +kernel
theorem dL_law_483 : decode cL_law 483 = .ok (.iconst 2, 1) := by decide +kernel
theorem dL_law_484 : decode cL_law 484 = .ok (.iadd, 1) := by decide +kernel
theorem dL_law_485 : decode cL_law 485 = .ok (.iaload, 1) := by decide +kernel
theorem dL_law_486 : decode cL_law 486 = .ok (.aload_n 0, 1) := by decide +kernel
theorem dL_law_487 : decode cL_law 487 = .ok (.iload_n 3, 1) := by decide +kernel
theorem dL_law_488 : decode cL_law 488 = .ok (.iconst 3, 1) := by decide +kernel
theorem dL_law_489 : decode cL_law 489 = .ok (.iadd, 1) := by decide +kernel
theorem dL_law_490 : decode cL_law 490 = .ok (.iaload, 1) := by decide +kernel
theorem dL_law_491 : decode cL_law 491 = .ok (.invokevirtual 55, 3) := by decide +kernel
theorem dL_law_494 : decode cL_law 494 = .ok (.aload_n 2, 1) := by decide +kernel
theorem dL_law_495 : decode cL_law 495 = .ok (.aload_n 0, 1) := by decide +kernel
theorem dL_law_496 : decode cL_law 496 = .ok (.iload_n 3, 1) := by decide +kernel
theorem dL_law_497 : decode cL_law 497 = .ok (.iconst 1, 1) := by decide +kernel
theorem dL_law_498 : decode cL_law 498 = .ok (.iadd, 1) := by decide +kernel
theorem dL_law_499 : decode cL_law 499 = .ok (.iaload, 1) := by decide +kernel
theorem dL_law_500 : decode cL_law 500 = .ok (.aload_n 0, 1) := by decide +kernel
theorem dL_law_501 : decode cL_law 501 = .ok (.iload_n 3, 1) := by decide +kernel
theorem dL_law_502 : decode cL_law 502 = .ok (.iconst 2, 1) := by decide +kernel
theorem dL_law_503 : decode cL_law 503 = .ok (.iadd, 1) := by decide +kernel
theorem dL_law_504 : decode cL_law 504 = .ok (.iaload, 1) := by decide +kernel
theorem dL_law_505 : decode cL_law 505 = .ok (.aload_n 0, 1) := by decide +kernel
theorem dL_law_506 : decode cL_law 506 = .ok (.iload_n 3, 1) := by decide +kernel
theorem dL_law_507 : decode cL_law 507 = .ok (.iconst 3, 1) := by decide +kernel
theorem dL_law_508 : decode cL_law 508 = .ok (.iadd, 1) := by decide +kernel
theorem dL_law_509 : decode cL_law 509 = .ok (.iaload, 1) := by decide +kernel
theorem dL_law_510 : decode cL_law 510 = .ok (.invokevirtual 59, 3) := by decide +kernel
theorem dL_law_513 : decode cL_law 513 = .ok (.lcmp, 1) := by decide +kernel
theorem dL_law_514 : decode cL_law 514 = .ok (.ifCond .eq 650, 3) := by decide +kernel
theorem dL_law_517 : decode cL_law 517 = .ok (.iconst 0, 1) := by decide +kernel
theorem dL_law_518 : decode cL_law 518 = .ok (.ireturn, 1) := by decide +kernel
theorem dL_law_519 : decode cL_law 519 = .ok (.aload_n 1, 1) := by decide +kernel
theorem dL_law_520 : decode cL_law 520 = .ok (.aload_n 0, 1) := by decide +kernel
theorem dL_law_521 : decode cL_law 521 = .ok (.iload_n 3, 1) := by decide +kernel
theorem dL_law_522 : decode cL_law 522 = .ok (.iconst 1, 1) := by decide +kernel
theorem dL_law_523 : decode cL_law 523 = .ok (.iadd, 1) := by decide +kernel
theorem dL_law_524 : decode cL_law 524 = .ok (.iaload, 1) := by decide +kernel
theorem dL_law_525 : decode cL_law 525 = .ok (.aload_n 0, 1) := by decide +kernel
theorem dL_law_526 : decode cL_law 526 = .ok (.iload_n 3, 1) := by decide +kernel
theorem dL_law_527 : decode cL_law 527 = .ok (.iconst 2, 1) := by decide +kernel
theorem dL_law_528 : decode cL_law 528 = .ok (.iadd, 1) := by decide +kernel
theorem dL_law_529 : decode cL_law 529 = .ok (.iaload, 1) := by decide +kernel
theorem dL_law_530 : decode cL_law 530 = .ok (.invokevirtual 60, 3) := by decide +kernel
theorem dL_law_533 : decode cL_law 533 = .ok (.aload_n 2, 1) := by decide +kernel
theorem dL_law_534 : decode cL_law 534 = .ok (.aload_n 0, 1) := by decide +kernel
theorem dL_law_535 : decode cL_law 535 = .ok (.iload_n 3, 1) := by decide +kernel
theorem dL_law_536 : decode cL_law 536 = .ok (.iconst 1, 1) := by decide +kernel
theorem dL_law_537 : decode cL_law 537 = .ok (.iadd, 1) := by decide +kernel
theorem dL_law_538 : decode cL_law 538 = .ok (.iaload, 1) := by decide +kernel
theorem dL_law_539 : decode cL_law 539 = .ok (.aload_n 0, 1) := by decide +kernel
theorem dL_law_540 : decode cL_law 540 = .ok (.iload_n 3, 1) := by decide +kernel
theorem dL_law_541 : decode cL_law 541 = .ok (.iconst 2, 1) := by decide +kernel
theorem dL_law_542 : decode cL_law 542 = .ok (.iadd, 1) := by decide +kernel
theorem dL_law_543 : decode cL_law 543 = .ok (.iaload, 1) := by decide +kernel
theorem dL_law_544 : decode cL_law 544 = .ok (.invokevirtual 63, 3) := by decide +kernel
theorem dL_law_547 : decode cL_law 547 = .ok (.if_icmp .eq 617, 3) := by decide +kernel
theorem dL_law_550 : decode cL_law 550 = .ok (.iconst 0, 1) := by decide +kernel
theorem dL_law_551 : decode cL_law 551 = .ok (.ireturn, 1) := by decide +kernel
theorem dL_law_552 : decode cL_law 552 = .ok (.aload_n 1, 1) := by decide +kernel
theorem dL_law_553 : decode cL_law 553 = .ok (.aload_n 0, 1) := by decide +kernel
theorem dL_law_554 : decode cL_law 554 = .ok (.iload_n 3, 1) := by decide +kernel
theorem dL_law_555 : decode cL_law 555 = .ok (.iconst 1, 1) := by decide +kernel
theorem dL_law_556 : decode cL_law 556 = .ok (.iadd, 1) := by decide +kernel
theorem dL_law_557 : decode cL_law 557 = .ok (.iaload, 1) := by decide +kernel
theorem dL_law_558 : decode cL_law 558 = .ok (.aload_n 0, 1) := by decide +kernel
theorem dL_law_559 : decode cL_law 559 = .ok (.iload_n 3, 1) := by decide +kernel
theorem dL_law_560 : decode cL_law 560 = .ok (.iconst 2, 1) := by decide +kernel
theorem dL_law_561 : decode cL_law 561 = .ok (.iadd, 1) := by decide +kernel
theorem dL_law_562 : decode cL_law 562 = .ok (.iaload, 1) := by decide +kernel
theorem dL_law_563 : decode cL_law 563 = .ok (.invokevirtual 64, 3) := by decide +kernel
theorem dL_law_566 : decode cL_law 566 = .ok (.aload_n 2, 1) := by decide +kernel
theorem dL_law_567 : decode cL_law 567 = .ok (.aload_n 0, 1) := by decide +kernel
theorem dL_law_568 : decode cL_law 568 = .ok (.iload_n 3, 1) := by decide +kernel
theorem dL_law_569 : decode cL_law 569 = .ok (.iconst 1, 1) := by decide +kernel
theorem dL_law_570 : decode cL_law 570 = .ok (.iadd, 1) := by decide +kernel
theorem dL_law_571 : decode cL_law 571 = .ok (.iaload, 1) := by decide +kernel
theorem dL_law_572 : decode cL_law 572 = .ok (.aload_n 0, 1) := by decide +kernel
theorem dL_law_573 : decode cL_law 573 = .ok (.iload_n 3, 1) := by decide +kernel
theorem dL_law_574 : decode cL_law 574 = .ok (.iconst 2, 1) := by decide +kernel
theorem dL_law_575 : decode cL_law 575 = .ok (.iadd, 1) := by decide +kernel
theorem dL_law_576 : decode cL_law 576 = .ok (.iaload, 1) := by decide +kernel
theorem dL_law_577 : decode cL_law 577 = .ok (.invokevirtual 67, 3) := by decide +kernel
theorem dL_law_580 : decode cL_law 580 = .ok (.if_icmp .eq 584, 3) := by decide +kernel
theorem dL_law_583 : decode cL_law 583 = .ok (.iconst 0, 1) := by decide +kernel
theorem dL_law_584 : decode cL_law 584 = .ok (.ireturn, 1) := by decide +kernel
theorem dL_law_585 : decode cL_law 585 = .ok (.aload_n 1, 1) := by decide +kernel
theorem dL_law_586 : decode cL_law 586 = .ok (.aload_n 0, 1) := by decide +kernel
theorem dL_law_587 : decode cL_law 587 = .ok (.iload_n 3, 1) := by decide +kernel
theorem dL_law_588 : decode cL_law 588 = .ok (.iconst 1, 1) := by decide +kernel
theorem dL_law_589 : decode cL_law 589 = .ok (.iadd, 1) := by decide +kernel
theorem dL_law_590 : decode cL_law 590 = .ok (.iaload, 1) := by decide +kernel
theorem dL_law_591 : decode cL_law 591 = .ok (.aload_n 0, 1) := by decide +kernel
theorem dL_law_592 : decode cL_law 592 = .ok (.iload_n 3, 1) := by decide +kernel
theorem dL_law_593 : decode cL_law 593 = .ok (.iconst 2, 1) := by decide +kernel
theorem dL_law_594 : decode cL_law 594 = .ok (.iadd, 1) := by decide +kernel
theorem dL_law_595 : decode cL_law 595 = .ok (.iaload, 1) := by decide +kernel
theorem dL_law_596 : decode cL_law 596 = .ok (.invokevirtual 68, 3) := by decide +kernel
theorem dL_law_599 : decode cL_law 599 = .ok (.aload_n 2, 1) := by decide +kernel
theorem dL_law_600 : decode cL_law 600 = .ok (.aload_n 0, 1) := by decide +kernel
theorem dL_law_601 : decode cL_law 601 = .ok (.iload_n 3, 1) := by decide +kernel
theorem dL_law_602 : decode cL_law 602 = .ok (.iconst 1, 1) := by decide +kernel
theorem dL_law_603 : decode cL_law 603 = .ok (.iadd, 1) := by decide +kernel
theorem dL_law_604 : decode cL_law 604 = .ok (.iaload, 1) := by decide +kernel
theorem dL_law_605 : decode cL_law 605 = .ok (.aload_n 0, 1) := by decide +kernel
theorem dL_law_606 : decode cL_law 606 = .ok (.iload_n 3, 1) := by decide +kernel
theorem dL_law_607 : decode cL_law 607 = .ok (.iconst 2, 1) := by decide +kernel
theorem dL_law_608 : decode cL_law 608 = .ok (.iadd, 1) := by decide +kernel
theorem dL_law_609 : decode cL_law 609 = .ok (.iaload, 1) := by decide +kernel
theorem dL_law_610 : decode cL_law 610 = .ok (.invokevirtual 71, 3) := by decide +kernel
theorem dL_law_613 : decode cL_law 613 = .ok (.if_icmp .eq 551, 3) := by decide +kernel
theorem dL_law_616 : decode cL_law 616 = .ok (.iconst 0, 1) := by decide +kernel
theorem dL_law_617 : decode cL_law 617 = .ok (.ireturn, 1) := by decide +kernel
theorem dL_law_618 : decode cL_law 618 = .ok (.aload_n 1, 1) := by decide +kernel
theorem dL_law_619 : decode cL_law 619 = .ok (.aload_n 0, 1) := by decide +kernel
theorem dL_law_620 : decode cL_law 620 = .ok (.iload_n 3, 1) := by decide +kernel
theorem dL_law_621 : decode cL_law 621 = .ok (.iconst 1, 1) := by decide +kernel
theorem dL_law_622 : decode cL_law 622 = .ok (.iadd, 1) := by decide +kernel
theorem dL_law_623 : decode cL_law 623 = .ok (.iaload, 1) := by decide +kernel
theorem dL_law_624 : decode cL_law 624 = .ok (.aload_n 0, 1) := by decide +kernel
theorem dL_law_625 : decode cL_law 625 = .ok (.iload_n 3, 1) := by decide +kernel
theorem dL_law_626 : decode cL_law 626 = .ok (.iconst 2, 1) := by decide +kernel
theorem dL_law_627 : decode cL_law 627 = .ok (.iadd, 1) := by decide +kernel
theorem dL_law_628 : decode cL_law 628 = .ok (.iaload, 1) := by decide +kernel
theorem dL_law_629 : decode cL_law 629 = .ok (.invokevirtual 72, 3) := by decide +kernel
theorem dL_law_632 : decode cL_law 632 = .ok (.aload_n 2, 1) := by decide +kernel
theorem dL_law_633 : decode cL_law 633 = .ok (.aload_n 0, 1) := by decide +kernel
theorem dL_law_634 : decode cL_law 634 = .ok (.iload_n 3, 1) := by decide +kernel
theorem dL_law_635 : decode cL_law 635 = .ok (.iconst 1, 1) := by decide +kernel
theorem dL_law_636 : decode cL_law 636 = .ok (.iadd, 1) := by decide +kernel
theorem dL_law_637 : decode cL_law 637 = .ok (.iaload, 1) := by decide +kernel
theorem dL_law_638 : decode cL_law 638 = .ok (.aload_n 0, 1) := by decide +kernel
theorem dL_law_639 : decode cL_law 639 = .ok (.iload_n 3, 1) := by decide +kernel
theorem dL_law_640 : decode cL_law 640 = .ok (.iconst 2, 1) := by decide +kernel
theorem dL_law_641 : decode cL_law 641 = .ok (.iadd, 1) := by decide +kernel
theorem dL_law_642 : decode cL_law 642 = .ok (.iaload, 1) := by decide +kernel
theorem dL_law_643 : decode cL_law 643 = .ok (.invokevirtual 75, 3) := by decide +kernel
theorem dL_law_646 : decode cL_law 646 = .ok (.if_icmp .eq 518, 3) := by decide +kernel
theorem dL_law_649 : decode cL_law 649 = .ok (.iconst 0, 1) := by decide +kernel
theorem dL_law_650 : decode cL_law 650 = .ok (.ireturn, 1) := by decide +kernel
theorem dL_law_651 : decode cL_law 651 = .ok (.aload_n 1, 1) := by decide +kernel
theorem dL_law_652 : decode cL_law 652 = .ok (.aload_n 0, 1) := by decide +kernel
theorem dL_law_653 : decode cL_law 653 = .ok (.iload_n 3, 1) := by decide +kernel
theorem dL_law_654 : decode cL_law 654 = .ok (.iconst 1, 1) := by decide +kernel
theorem dL_law_655 : decode cL_law 655 = .ok (.iadd, 1) := by decide +kernel
theorem dL_law_656 : decode cL_law 656 = .ok (.iaload, 1) := by decide +kernel
theorem dL_law_657 : decode cL_law 657 = .ok (.invokevirtual 76, 3) := by decide +kernel
theorem dL_law_660 : decode cL_law 660 = .ok (.aload_n 2, 1) := by decide +kernel
theorem dL_law_661 : decode cL_law 661 = .ok (.aload_n 0, 1) := by decide +kernel
theorem dL_law_662 : decode cL_law 662 = .ok (.iload_n 3, 1) := by decide +kernel
theorem dL_law_663 : decode cL_law 663 = .ok (.iconst 1, 1) := by decide +kernel
theorem dL_law_664 : decode cL_law 664 = .ok (.iadd, 1) := by decide +kernel
theorem dL_law_665 : decode cL_law 665 = .ok (.iaload, 1) := by decide +kernel
theorem dL_law_666 : decode cL_law 666 = .ok (.invokevirtual 79, 3) := by decide +kernel
theorem dL_law_669 : decode cL_law 669 = .ok (.if_icmp .eq 495, 3) := by decide +kernel
theorem dL_law_672 : decode cL_law 672 = .ok (.iconst 0, 1) := by decide +kernel
theorem dL_law_673 : decode cL_law 673 = .ok (.ireturn, 1) := by decide +kernel
theorem dL_law_674 : decode cL_law 674 = .ok (.aload_n 1, 1) := by decide +kernel
theorem dL_law_675 : decode cL_law 675 = .ok (.aload_n 0, 1) := by decide +kernel
theorem dL_law_676 : decode cL_law 676 = .ok (.iload_n 3, 1) := by decide +kernel
theorem dL_law_677 : decode cL_law 677 = .ok (.iconst 1, 1) := by decide +kernel
theorem dL_law_678 : decode cL_law 678 = .ok (.iadd, 1) := by decide +kernel
theorem dL_law_679 : decode cL_law 679 = .ok (.iaload, 1) := by decide +kernel
theorem dL_law_680 : decode cL_law 680 = .ok (.aload_n 0, 1) := by decide +kernel
theorem dL_law_681 : decode cL_law 681 = .ok (.iload_n 3, 1) := by decide +kernel
theorem dL_law_682 : decode cL_law 682 = .ok (.iconst 2, 1) := by decide +kernel
theorem dL_law_683 : decode cL_law 683 = .ok (.iadd, 1) := by decide +kernel
theorem dL_law_684 : decode cL_law 684 = .ok (.iaload, 1) := by decide +kernel
theorem dL_law_685 : decode cL_law 685 = .ok (.aload_n 0, 1) := by decide +kernel
theorem dL_law_686 : decode cL_law 686 = .ok (.iload_n 3, 1) := by decide +kernel
theorem dL_law_687 : decode cL_law 687 = .ok (.iconst 3, 1) := by decide +kernel
theorem dL_law_688 : decode cL_law 688 = .ok (.iadd, 1) := by decide +kernel
theorem dL_law_689 : decode cL_law 689 = .ok (.iaload, 1) := by decide +kernel
theorem dL_law_690 : decode cL_law 690 = .ok (.invokevirtual 80, 3) := by decide +kernel
theorem dL_law_693 : decode cL_law 693 = .ok (.aload_n 2, 1) := by decide +kernel
theorem dL_law_694 : decode cL_law 694 = .ok (.aload_n 0, 1) := by decide +kernel
theorem dL_law_695 : decode cL_law 695 = .ok (.iload_n 3, 1) := by decide +kernel
theorem dL_law_696 : decode cL_law 696 = .ok (.iconst 1, 1) := by decide +kernel
theorem dL_law_697 : decode cL_law 697 = .ok (.iadd, 1) := by decide +kernel
theorem dL_law_698 : decode cL_law 698 = .ok (.iaload, 1) := by decide +kernel
theorem dL_law_699 : decode cL_law 699 = .ok (.aload_n 0, 1) := by decide +kernel
theorem dL_law_700 : decode cL_law 700 = .ok (.iload_n 3, 1) := by decide +kernel
theorem dL_law_701 : decode cL_law 701 = .ok (.iconst 2, 1) := by decide +kernel
theorem dL_law_702 : decode cL_law 702 = .ok (.iadd, 1) := by decide +kernel
theorem dL_law_703 : decode cL_law 703 = .ok (.iaload, 1) := by decide +kernel
theorem dL_law_704 : decode cL_law 704 = .ok (.aload_n 0, 1) := by decide +kernel
theorem dL_law_705 : decode cL_law 705 = .ok (.iload_n 3, 1) := by decide +kernel
theorem dL_law_706 : decode cL_law 706 = .ok (.iconst 3, 1) := by decide +kernel
theorem dL_law_707 : decode cL_law 707 = .ok (.iadd, 1) := by decide +kernel
theorem dL_law_708 : decode cL_law 708 = .ok (.iaload, 1) := by decide +kernel
theorem dL_law_709 : decode cL_law 709 = .ok (.invokevirtual 83, 3) := by decide +kernel
theorem dL_law_712 : decode cL_law 712 = .ok (.if_icmp .eq 452, 3) := by decide +kernel
theorem dL_law_715 : decode cL_law 715 = .ok (.iconst 0, 1) := by decide +kernel
theorem dL_law_716 : decode cL_law 716 = .ok (.ireturn, 1) := by decide +kernel
theorem dL_law_717 : decode cL_law 717 = .ok (.aload_n 1, 1) := by decide +kernel
theorem dL_law_718 : decode cL_law 718 = .ok (.aload_n 0, 1) := by decide +kernel
theorem dL_law_719 : decode cL_law 719 = .ok (.iload_n 3, 1) := by decide +kernel
theorem dL_law_720 : decode cL_law 720 = .ok (.iconst 1, 1) := by decide +kernel
theorem dL_law_721 : decode cL_law 721 = .ok (.iadd, 1) := by decide +kernel
theorem dL_law_722 : decode cL_law 722 = .ok (.iaload, 1) := by decide +kernel
theorem dL_law_723 : decode cL_law 723 = .ok (.aload_n 0, 1) := by decide +kernel
theorem dL_law_724 : decode cL_law 724 = .ok (.iload_n 3, 1) := by decide +kernel
theorem dL_law_725 : decode cL_law 725 = .ok (.iconst 2, 1) := by decide +kernel
theorem dL_law_726 : decode cL_law 726 = .ok (.iadd, 1) := by decide +kernel
theorem dL_law_727 : decode cL_law 727 = .ok (.iaload, 1) := by decide +kernel
theorem dL_law_728 : decode cL_law 728 = .ok (.invokevirtual 84, 3) := by decide +kernel
theorem dL_law_731 : decode cL_law 731 = .ok (.aload_n 2, 1) := by decide +kernel
theorem dL_law_732 : decode cL_law 732 = .ok (.aload_n 0, 1) := by decide +kernel
theorem dL_law_733 : decode cL_law 733 = .ok (.iload_n 3, 1) := by decide +kernel
theorem dL_law_734 : decode cL_law 734 = .ok (.iconst 1, 1) := by decide +kernel
theorem dL_law_735 : decode cL_law 735 = .ok (.iadd, 1) := by decide +kernel
theorem dL_law_736 : decode cL_law 736 = .ok (.iaload, 1) := by decide +kernel
theorem dL_law_737 : decode cL_law 737 = .ok (.aload_n 0, 1) := by decide +kernel
theorem dL_law_738 : decode cL_law 738 = .ok (.iload_n 3, 1) := by decide +kernel
theorem dL_law_739 : decode cL_law 739 = .ok (.iconst 2, 1) := by decide +kernel
theorem dL_law_740 : decode cL_law 740 = .ok (.iadd, 1) := by decide +kernel
theorem dL_law_741 : decode cL_law 741 = .ok (.iaload, 1) := by decide +kernel
theorem dL_law_742 : decode cL_law 742 = .ok (.invokevirtual 87, 3) := by decide +kernel
theorem dL_law_745 : decode cL_law 745 = .ok (.if_icmp .eq 419, 3) := by decide +kernel
theorem dL_law_748 : decode cL_law 748 = .ok (.iconst 0, 1) := by decide +kernel
theorem dL_law_749 : decode cL_law 749 = .ok (.ireturn, 1) := by decide +kernel
theorem dL_law_750 : decode cL_law 750 = .ok (.aload_n 1, 1) := by decide +kernel
theorem dL_law_751 : decode cL_law 751 = .ok (.aload_n 0, 1) := by decide +kernel
theorem dL_law_752 : decode cL_law 752 = .ok (.iload_n 3, 1) := by decide +kernel
theorem dL_law_753 : decode cL_law 753 = .ok (.iconst 1, 1) := by decide +kernel
theorem dL_law_754 : decode cL_law 754 = .ok (.iadd, 1) := by decide +kernel
theorem dL_law_755 : decode cL_law 755 = .ok (.iaload, 1) := by decide +kernel
theorem dL_law_756 : decode cL_law 756 = .ok (.aload_n 0, 1) := by decide +kernel
theorem dL_law_757 : decode cL_law 757 = .ok (.iload_n 3, 1) := by decide +kernel
theorem dL_law_758 : decode cL_law 758 = .ok (.iconst 2, 1) := by decide +kernel
theorem dL_law_759 : decode cL_law 759 = .ok (.iadd, 1) := by decide +kernel
theorem dL_law_760 : decode cL_law 760 = .ok (.iaload, 1) := by decide +kernel
theorem dL_law_761 : decode cL_law 761 = .ok (.invokevirtual 88, 3) := by decide +kernel
theorem dL_law_764 : decode cL_law 764 = .ok (.aload_n 2, 1) := by decide +kernel
theorem dL_law_765 : decode cL_law 765 = .ok (.aload_n 0, 1) := by decide +kernel
theorem dL_law_766 : decode cL_law 766 = .ok (.iload_n 3, 1) := by decide +kernel
theorem dL_law_767 : decode cL_law 767 = .ok (.iconst 1, 1) := by decide +kernel
theorem dL_law_768 : decode cL_law 768 = .ok (.iadd, 1) := by decide +kernel
theorem dL_law_769 : decode cL_law 769 = .ok (.iaload, 1) := by decide +kernel
theorem dL_law_770 : decode cL_law 770 = .ok (.aload_n 0, 1) := by decide +kernel
theorem dL_law_771 : decode cL_law 771 = .ok (.iload_n 3, 1) := by decide +kernel
theorem dL_law_772 : decode cL_law 772 = .ok (.iconst 2, 1) := by decide +kernel
theorem dL_law_773 : decode cL_law 773 = .ok (.iadd, 1) := by decide +kernel
theorem dL_law_774 : decode cL_law 774 = .ok (.iaload, 1) := by decide +kernel
theorem dL_law_775 : decode cL_law 775 = .ok (.invokevirtual 91, 3) := by decide +kernel
theorem dL_law_778 : decode cL_law 778 = .ok (.if_icmp .eq 386, 3) := by decide +kernel
theorem dL_law_781 : decode cL_law 781 = .ok (.iconst 0, 1) := by decide +kernel
theorem dL_law_782 : decode cL_law 782 = .ok (.ireturn, 1) := by decide +kernel
theorem dL_law_783 : decode cL_law 783 = .ok (.aload_n 1, 1) := by decide +kernel
theorem dL_law_784 : decode cL_law 784 = .ok (.invokevirtual 92, 3) := by decide +kernel
theorem dL_law_787 : decode cL_law 787 = .ok (.aload_n 2, 1) := by decide +kernel
theorem dL_law_788 : decode cL_law 788 = .ok (.invokevirtual 95, 3) := by decide +kernel
theorem dL_law_791 : decode cL_law 791 = .ok (.if_icmp .eq 373, 3) := by decide +kernel
theorem dL_law_794 : decode cL_law 794 = .ok (.iconst 0, 1) := by decide +kernel
theorem dL_law_795 : decode cL_law 795 = .ok (.ireturn, 1) := by decide +kernel
theorem dL_law_796 : decode cL_law 796 = .ok (.aload_n 1, 1) := by decide +kernel
theorem dL_law_797 : decode cL_law 797 = .ok (.aload_n 0, 1) := by decide +kernel
theorem dL_law_798 : decode cL_law 798 = .ok (.iload_n 3, 1) := by decide +kernel
theorem dL_law_799 : decode cL_law 799 = .ok (.iconst 1, 1) := by decide +kernel
theorem dL_law_800 : decode cL_law 800 = .ok (.iadd, 1) := by decide +kernel
theorem dL_law_801 : decode cL_law 801 = .ok (.iaload, 1) := by decide +kernel
theorem dL_law_802 : decode cL_law 802 = .ok (.invokevirtual 96, 3) := by decide +kernel
theorem dL_law_805 : decode cL_law 805 = .ok (.aload_n 2, 1) := by decide +kernel
theorem dL_law_806 : decode cL_law 806 = .ok (.aload_n 0, 1) := by decide +kernel
theorem dL_law_807 : decode cL_law 807 = .ok (.iload_n 3, 1) := by decide +kernel
theorem dL_law_808 : decode cL_law 808 = .ok (.iconst 1, 1) := by decide +kernel
theorem dL_law_809 : decode cL_law 809 = .ok (.iadd, 1) := by decide +kernel
theorem dL_law_810 : decode cL_law 810 = .ok (.iaload, 1) := by decide +kernel
theorem dL_law_811 : decode cL_law 811 = .ok (.invokevirtual 99, 3) := by decide +kernel
theorem dL_law_814 : decode cL_law 814 = .ok (.if_icmp .eq 350, 3) := by decide +kernel
theorem dL_law_817 : decode cL_law 817 = .ok (.iconst 0, 1) := by decide +kernel
theorem dL_law_818 : decode cL_law 818 = .ok (.ireturn, 1) := by decide +kernel
theorem dL_law_819 : decode cL_law 819 = .ok (.aload_n 1, 1) := by decide +kernel
theorem dL_law_820 : decode cL_law 820 = .ok (.invokevirtual 100, 3) := by decide +kernel
theorem dL_law_823 : decode cL_law 823 = .ok (.aload_n 2, 1) := by decide +kernel
theorem dL_law_824 : decode cL_law 824 = .ok (.invokevirtual 103, 3) := by decide +kernel
theorem dL_law_827 : decode cL_law 827 = .ok (.if_icmp .eq 337, 3) := by decide +kernel
theorem dL_law_830 : decode cL_law 830 = .ok (.iconst 0, 1) := by decide +kernel
theorem dL_law_831 : decode cL_law 831 = .ok (.ireturn, 1) := by decide +kernel
theorem dL_law_832 : decode cL_law 832 = .ok (.aload_n 1, 1) := by decide +kernel
theorem dL_law_833 : decode cL_law 833 = .ok (.aload_n 0, 1) := by decide +kernel
theorem dL_law_834 : decode cL_law 834 = .ok (.iload_n 3, 1) := by decide +kernel
theorem dL_law_835 : decode cL_law 835 = .ok (.iconst 1, 1) := by decide +kernel
theorem dL_law_836 : decode cL_law 836 = .ok (.iadd, 1) := by decide +kernel
theorem dL_law_837 : decode cL_law 837 = .ok (.iaload, 1) := by decide +kernel
theorem dL_law_838 : decode cL_law 838 = .ok (.invokevirtual 104, 3) := by decide +kernel
theorem dL_law_841 : decode cL_law 841 = .ok (.aload_n 2, 1) := by decide +kernel
theorem dL_law_842 : decode cL_law 842 = .ok (.aload_n 0, 1) := by decide +kernel
theorem dL_law_843 : decode cL_law 843 = .ok (.iload_n 3, 1) := by decide +kernel
theorem dL_law_844 : decode cL_law 844 = .ok (.iconst 1, 1) := by decide +kernel
theorem dL_law_845 : decode cL_law 845 = .ok (.iadd, 1) := by decide +kernel
theorem dL_law_846 : decode cL_law 846 = .ok (.iaload, 1) := by decide +kernel
theorem dL_law_847 : decode cL_law 847 = .ok (.invokevirtual 107, 3) := by decide +kernel
theorem dL_law_850 : decode cL_law 850 = .ok (.if_icmp .eq 314, 3) := by decide +kernel
theorem dL_law_853 : decode cL_law 853 = .ok (.iconst 0, 1) := by decide +kernel
theorem dL_law_854 : decode cL_law 854 = .ok (.ireturn, 1) := by decide +kernel
theorem dL_law_855 : decode cL_law 855 = .ok (.aload_n 1, 1) := by decide +kernel
theorem dL_law_856 : decode cL_law 856 = .ok (.aload_n 0, 1) := by decide +kernel
theorem dL_law_857 : decode cL_law 857 = .ok (.iload_n 3, 1) := by decide +kernel
theorem dL_law_858 : decode cL_law 858 = .ok (.iconst 1, 1) := by decide +kernel
theorem dL_law_859 : decode cL_law 859 = .ok (.iadd, 1) := by decide +kernel
theorem dL_law_860 : decode cL_law 860 = .ok (.iaload, 1) := by decide +kernel
theorem dL_law_861 : decode cL_law 861 = .ok (.aload_n 0, 1) := by decide +kernel
theorem dL_law_862 : decode cL_law 862 = .ok (.iload_n 3, 1) := by decide +kernel
theorem dL_law_863 : decode cL_law 863 = .ok (.iconst 2, 1) := by decide +kernel
theorem dL_law_864 : decode cL_law 864 = .ok (.iadd, 1) := by decide +kernel
theorem dL_law_865 : decode cL_law 865 = .ok (.iaload, 1) := by decide +kernel
theorem dL_law_866 : decode cL_law 866 = .ok (.invokevirtual 108, 3) := by decide +kernel
theorem dL_law_869 : decode cL_law 869 = .ok (.aload_n 2, 1) := by decide +kernel
theorem dL_law_870 : decode cL_law 870 = .ok (.aload_n 0, 1) := by decide +kernel
theorem dL_law_871 : decode cL_law 871 = .ok (.iload_n 3, 1) := by decide +kernel
theorem dL_law_872 : decode cL_law 872 = .ok (.iconst 1, 1) := by decide +kernel
theorem dL_law_873 : decode cL_law 873 = .ok (.iadd, 1) := by decide +kernel
theorem dL_law_874 : decode cL_law 874 = .ok (.iaload, 1) := by decide +kernel
theorem dL_law_875 : decode cL_law 875 = .ok (.aload_n 0, 1) := by decide +kernel
theorem dL_law_876 : decode cL_law 876 = .ok (.iload_n 3, 1) := by decide +kernel
theorem dL_law_877 : decode cL_law 877 = .ok (.iconst 2, 1) := by decide +kernel
theorem dL_law_878 : decode cL_law 878 = .ok (.iadd, 1) := by decide +kernel
theorem dL_law_879 : decode cL_law 879 = .ok (.iaload, 1) := by decide +kernel
theorem dL_law_880 : decode cL_law 880 = .ok (.invokevirtual 111, 3) := by decide +kernel
theorem dL_law_883 : decode cL_law 883 = .ok (.if_icmp .eq 281, 3) := by decide +kernel
theorem dL_law_886 : decode cL_law 886 = .ok (.iconst 0, 1) := by decide +kernel
theorem dL_law_887 : decode cL_law 887 = .ok (.ireturn, 1) := by decide +kernel
theorem dL_law_888 : decode cL_law 888 = .ok (.aload_n 1, 1) := by decide +kernel
theorem dL_law_889 : decode cL_law 889 = .ok (.aload_n 0, 1) := by decide +kernel
theorem dL_law_890 : decode cL_law 890 = .ok (.iload_n 3, 1) := by decide +kernel
theorem dL_law_891 : decode cL_law 891 = .ok (.iconst 1, 1) := by decide +kernel
theorem dL_law_892 : decode cL_law 892 = .ok (.iadd, 1) := by decide +kernel
theorem dL_law_893 : decode cL_law 893 = .ok (.iaload, 1) := by decide +kernel
theorem dL_law_894 : decode cL_law 894 = .ok (.invokevirtual 112, 3) := by decide +kernel
theorem dL_law_897 : decode cL_law 897 = .ok (.aload_n 2, 1) := by decide +kernel
theorem dL_law_898 : decode cL_law 898 = .ok (.aload_n 0, 1) := by decide +kernel
theorem dL_law_899 : decode cL_law 899 = .ok (.iload_n 3, 1) := by decide +kernel
theorem dL_law_900 : decode cL_law 900 = .ok (.iconst 1, 1) := by decide +kernel
theorem dL_law_901 : decode cL_law 901 = .ok (.iadd, 1) := by decide +kernel
theorem dL_law_902 : decode cL_law 902 = .ok (.iaload, 1) := by decide +kernel
theorem dL_law_903 : decode cL_law 903 = .ok (.invokevirtual 115, 3) := by decide +kernel
theorem dL_law_906 : decode cL_law 906 = .ok (.if_icmp .eq 258, 3) := by decide +kernel
theorem dL_law_909 : decode cL_law 909 = .ok (.iconst 0, 1) := by decide +kernel
theorem dL_law_910 : decode cL_law 910 = .ok (.ireturn, 1) := by decide +kernel
theorem dL_law_911 : decode cL_law 911 = .ok (.aload_n 1, 1) := by decide +kernel
theorem dL_law_912 : decode cL_law 912 = .ok (.aload_n 0, 1) := by decide +kernel
theorem dL_law_913 : decode cL_law 913 = .ok (.iload_n 3, 1) := by decide +kernel
theorem dL_law_914 : decode cL_law 914 = .ok (.iconst 1, 1) := by decide +kernel
theorem dL_law_915 : decode cL_law 915 = .ok (.iadd, 1) := by decide +kernel
theorem dL_law_916 : decode cL_law 916 = .ok (.iaload, 1) := by decide +kernel
theorem dL_law_917 : decode cL_law 917 = .ok (.invokevirtual 116, 3) := by decide +kernel
theorem dL_law_920 : decode cL_law 920 = .ok (.aload_n 2, 1) := by decide +kernel
theorem dL_law_921 : decode cL_law 921 = .ok (.aload_n 0, 1) := by decide +kernel
theorem dL_law_922 : decode cL_law 922 = .ok (.iload_n 3, 1) := by decide +kernel
theorem dL_law_923 : decode cL_law 923 = .ok (.iconst 1, 1) := by decide +kernel
theorem dL_law_924 : decode cL_law 924 = .ok (.iadd, 1) := by decide +kernel
theorem dL_law_925 : decode cL_law 925 = .ok (.iaload, 1) := by decide +kernel
theorem dL_law_926 : decode cL_law 926 = .ok (.invokevirtual 119, 3) := by decide +kernel
theorem dL_law_929 : decode cL_law 929 = .ok (.if_icmp .eq 235, 3) := by decide +kernel
theorem dL_law_932 : decode cL_law 932 = .ok (.iconst 0, 1) := by decide +kernel
theorem dL_law_933 : decode cL_law 933 = .ok (.ireturn, 1) := by decide +kernel
theorem dL_law_934 : decode cL_law 934 = .ok (.aload_n 1, 1) := by decide +kernel
theorem dL_law_935 : decode cL_law 935 = .ok (.aload_n 0, 1) := by decide +kernel
theorem dL_law_936 : decode cL_law 936 = .ok (.iload_n 3, 1) := by decide +kernel
theorem dL_law_937 : decode cL_law 937 = .ok (.iconst 1, 1) := by decide +kernel
theorem dL_law_938 : decode cL_law 938 = .ok (.iadd, 1) := by decide +kernel
theorem dL_law_939 : decode cL_law 939 = .ok (.iaload, 1) := by decide +kernel
theorem dL_law_940 : decode cL_law 940 = .ok (.aload_n 0, 1) := by decide +kernel
theorem dL_law_941 : decode cL_law 941 = .ok (.iload_n 3, 1) := by decide +kernel
theorem dL_law_942 : decode cL_law 942 = .ok (.iconst 2, 1) := by decide +kernel
theorem dL_law_943 : decode cL_law 943 = .ok (.iadd, 1) := by decide +kernel
theorem dL_law_944 : decode cL_law 944 = .ok (.iaload, 1) := by decide +kernel
theorem dL_law_945 : decode cL_law 945 = .ok (.invokevirtual 120, 3) := by decide +kernel
theorem dL_law_948 : decode cL_law 948 = .ok (.aload_n 2, 1) := by decide +kernel
theorem dL_law_949 : decode cL_law 949 = .ok (.aload_n 0, 1) := by decide +kernel
theorem dL_law_950 : decode cL_law 950 = .ok (.iload_n 3, 1) := by decide +kernel
theorem dL_law_951 : decode cL_law 951 = .ok (.iconst 1, 1) := by decide +kernel
theorem dL_law_952 : decode cL_law 952 = .ok (.iadd, 1) := by decide +kernel
theorem dL_law_953 : decode cL_law 953 = .ok (.iaload, 1) := by decide +kernel
theorem dL_law_954 : decode cL_law 954 = .ok (.aload_n 0, 1) := by decide +kernel
theorem dL_law_955 : decode cL_law 955 = .ok (.iload_n 3, 1) := by decide +kernel
theorem dL_law_956 : decode cL_law 956 = .ok (.iconst 2, 1) := by decide +kernel
theorem dL_law_957 : decode cL_law 957 = .ok (.iadd, 1) := by decide +kernel
theorem dL_law_958 : decode cL_law 958 = .ok (.iaload, 1) := by decide +kernel
theorem dL_law_959 : decode cL_law 959 = .ok (.invokevirtual 124, 3) := by decide +kernel
theorem dL_law_962 : decode cL_law 962 = .ok (.if_icmp .eq 202, 3) := by decide +kernel
theorem dL_law_965 : decode cL_law 965 = .ok (.iconst 0, 1) := by decide +kernel
theorem dL_law_966 : decode cL_law 966 = .ok (.ireturn, 1) := by decide +kernel
theorem dL_law_967 : decode cL_law 967 = .ok (.aload_n 1, 1) := by decide +kernel
theorem dL_law_968 : decode cL_law 968 = .ok (.aload_n 0, 1) := by decide +kernel
theorem dL_law_969 : decode cL_law 969 = .ok (.iload_n 3, 1) := by decide +kernel
theorem dL_law_970 : decode cL_law 970 = .ok (.iconst 1, 1) := by decide +kernel
theorem dL_law_971 : decode cL_law 971 = .ok (.iadd, 1) := by decide +kernel
theorem dL_law_972 : decode cL_law 972 = .ok (.iaload, 1) := by decide +kernel
theorem dL_law_973 : decode cL_law 973 = .ok (.aload_n 0, 1) := by decide +kernel
theorem dL_law_974 : decode cL_law 974 = .ok (.iload_n 3, 1) := by decide +kernel
theorem dL_law_975 : decode cL_law 975 = .ok (.iconst 2, 1) := by decide +kernel
theorem dL_law_976 : decode cL_law 976 = .ok (.iadd, 1) := by decide +kernel
theorem dL_law_977 : decode cL_law 977 = .ok (.iaload, 1) := by decide +kernel
theorem dL_law_978 : decode cL_law 978 = .ok (.invokevirtual 125, 3) := by decide +kernel
theorem dL_law_981 : decode cL_law 981 = .ok (.aload_n 2, 1) := by decide +kernel
theorem dL_law_982 : decode cL_law 982 = .ok (.aload_n 0, 1) := by decide +kernel
theorem dL_law_983 : decode cL_law 983 = .ok (.iload_n 3, 1) := by decide +kernel
theorem dL_law_984 : decode cL_law 984 = .ok (.iconst 1, 1) := by decide +kernel
theorem dL_law_985 : decode cL_law 985 = .ok (.iadd, 1) := by decide +kernel
theorem dL_law_986 : decode cL_law 986 = .ok (.iaload, 1) := by decide +kernel
theorem dL_law_987 : decode cL_law 987 = .ok (.aload_n 0, 1) := by decide +kernel
theorem dL_law_988 : decode cL_law 988 = .ok (.iload_n 3, 1) := by decide +kernel
theorem dL_law_989 : decode cL_law 989 = .ok (.iconst 2, 1) := by decide +kernel
theorem dL_law_990 : decode cL_law 990 = .ok (.iadd, 1) := by decide +kernel
theorem dL_law_991 : decode cL_law 991 = .ok (.iaload, 1) := by decide +kernel
theorem dL_law_992 : decode cL_law 992 = .ok (.invokevirtual 128, 3) := by decide +kernel
theorem dL_law_995 : decode cL_law 995 = .ok (.if_icmp .eq 169, 3) := by decide +kernel
theorem dL_law_998 : decode cL_law 998 = .ok (.iconst 0, 1) := by decide +kernel
theorem dL_law_999 : decode cL_law 999 = .ok (.ireturn, 1) := by decide +kernel
theorem dL_law_1000 : decode cL_law 1000 = .ok (.aload_n 1, 1) := by decide +kernel
theorem dL_law_1001 : decode cL_law 1001 = .ok (.aload_n 0, 1) := by decide +kernel
theorem dL_law_1002 : decode cL_law 1002 = .ok (.iload_n 3, 1) := by decide +kernel
theorem dL_law_1003 : decode cL_law 1003 = .ok (.iconst 1, 1) := by decide +kernel
theorem dL_law_1004 : decode cL_law 1004 = .ok (.iadd, 1) := by decide +kernel
theorem dL_law_1005 : decode cL_law 1005 = .ok (.iaload, 1) := by decide +kernel
theorem dL_law_1006 : decode cL_law 1006 = .ok (.invokevirtual 129, 3) := by decide +kernel
theorem dL_law_1009 : decode cL_law 1009 = .ok (.aload_n 2, 1) := by decide +kernel
theorem dL_law_1010 : decode cL_law 1010 = .ok (.aload_n 0, 1) := by decide +kernel
theorem dL_law_1011 : decode cL_law 1011 = .ok (.iload_n 3, 1) := by decide +kernel
theorem dL_law_1012 : decode cL_law 1012 = .ok (.iconst 1, 1) := by decide +kernel
theorem dL_law_1013 : decode cL_law 1013 = .ok (.iadd, 1) := by decide +kernel
theorem dL_law_1014 : decode cL_law 1014 = .ok (.iaload, 1) := by decide +kernel
theorem dL_law_1015 : decode cL_law 1015 = .ok (.invokevirtual 132, 3) := by decide +kernel
theorem dL_law_1018 : decode cL_law 1018 = .ok (.if_icmp .eq 146, 3) := by decide +kernel
theorem dL_law_1021 : decode cL_law 1021 = .ok (.iconst 0, 1) := by decide +kernel
theorem dL_law_1022 : decode cL_law 1022 = .ok (.ireturn, 1) := by decide +kernel
theorem dL_law_1023 : decode cL_law 1023 = .ok (.aload_n 1, 1) := by decide +kernel
theorem dL_law_1024 : decode cL_law 1024 = .ok (.invokevirtual 133, 3) := by decide +kernel
theorem dL_law_1027 : decode cL_law 1027 = .ok (.aload_n 2, 1) := by decide +kernel
theorem dL_law_1028 : decode cL_law 1028 = .ok (.invokevirtual 137, 3) := by decide +kernel
theorem dL_law_1031 : decode cL_law 1031 = .ok (.if_icmp .eq 133, 3) := by decide +kernel
theorem dL_law_1034 : decode cL_law 1034 = .ok (.iconst 0, 1) := by decide +kernel
theorem dL_law_1035 : decode cL_law 1035 = .ok (.ireturn, 1) := by decide +kernel
theorem dL_law_1036 : decode cL_law 1036 = .ok (.aload_n 1, 1) := by decide +kernel
theorem dL_law_1037 : decode cL_law 1037 = .ok (.aload_n 0, 1) := by decide +kernel
theorem dL_law_1038 : decode cL_law 1038 = .ok (.iload_n 3, 1) := by decide +kernel
theorem dL_law_1039 : decode cL_law 1039 = .ok (.iconst 1, 1) := by decide +kernel
theorem dL_law_1040 : decode cL_law 1040 = .ok (.iadd, 1) := by decide +kernel
theorem dL_law_1041 : decode cL_law 1041 = .ok (.iaload, 1) := by decide +kernel
theorem dL_law_1042 : decode cL_law 1042 = .ok (.invokevirtual 138, 3) := by decide +kernel
theorem dL_law_1045 : decode cL_law 1045 = .ok (.aload_n 2, 1) := by decide +kernel
theorem dL_law_1046 : decode cL_law 1046 = .ok (.aload_n 0, 1) := by decide +kernel
theorem dL_law_1047 : decode cL_law 1047 = .ok (.iload_n 3, 1) := by decide +kernel
theorem dL_law_1048 : decode cL_law 1048 = .ok (.iconst 1, 1) := by decide +kernel
theorem dL_law_1049 : decode cL_law 1049 = .ok (.iadd, 1) := by decide +kernel
theorem dL_law_1050 : decode cL_law 1050 = .ok (.iaload, 1) := by decide +kernel
theorem dL_law_1051 : decode cL_law 1051 = .ok (.invokevirtual 141, 3) := by decide +kernel
theorem dL_law_1054 : decode cL_law 1054 = .ok (.if_icmp .eq 110, 3) := by decide +kernel
theorem dL_law_1057 : decode cL_law 1057 = .ok (.iconst 0, 1) := by decide +kernel
theorem dL_law_1058 : decode cL_law 1058 = .ok (.ireturn, 1) := by decide +kernel
theorem dL_law_1059 : decode cL_law 1059 = .ok (.aload_n 1, 1) := by decide +kernel
theorem dL_law_1060 : decode cL_law 1060 = .ok (.aload_n 0, 1) := by decide +kernel
theorem dL_law_1061 : decode cL_law 1061 = .ok (.iload_n 3, 1) := by decide +kernel
theorem dL_law_1062 : decode cL_law 1062 = .ok (.iconst 1, 1) := by decide +kernel
theorem dL_law_1063 : decode cL_law 1063 = .ok (.iadd, 1) := by decide +kernel
theorem dL_law_1064 : decode cL_law 1064 = .ok (.iaload, 1) := by decide +kernel
theorem dL_law_1065 : decode cL_law 1065 = .ok (.aload_n 0, 1) := by decide +kernel
theorem dL_law_1066 : decode cL_law 1066 = .ok (.iload_n 3, 1) := by decide +kernel
theorem dL_law_1067 : decode cL_law 1067 = .ok (.iconst 2, 1) := by decide +kernel
theorem dL_law_1068 : decode cL_law 1068 = .ok (.iadd, 1) := by decide +kernel
theorem dL_law_1069 : decode cL_law 1069 = .ok (.iaload, 1) := by decide +kernel
theorem dL_law_1070 : decode cL_law 1070 = .ok (.invokevirtual 142, 3) := by decide +kernel
theorem dL_law_1073 : decode cL_law 1073 = .ok (.aload_n 2, 1) := by decide +kernel
theorem dL_law_1074 : decode cL_law 1074 = .ok (.aload_n 0, 1) := by decide +kernel
theorem dL_law_1075 : decode cL_law 1075 = .ok (.iload_n 3, 1) := by decide +kernel
theorem dL_law_1076 : decode cL_law 1076 = .ok (.iconst 1, 1) := by decide +kernel
theorem dL_law_1077 : decode cL_law 1077 = .ok (.iadd, 1) := by decide +kernel
theorem dL_law_1078 : decode cL_law 1078 = .ok (.iaload, 1) := by decide +kernel
theorem dL_law_1079 : decode cL_law 1079 = .ok (.aload_n 0, 1) := by decide +kernel
theorem dL_law_1080 : decode cL_law 1080 = .ok (.iload_n 3, 1) := by decide +kernel
theorem dL_law_1081 : decode cL_law 1081 = .ok (.iconst 2, 1) := by decide +kernel
theorem dL_law_1082 : decode cL_law 1082 = .ok (.iadd, 1) := by decide +kernel
theorem dL_law_1083 : decode cL_law 1083 = .ok (.iaload, 1) := by decide +kernel
theorem dL_law_1084 : decode cL_law 1084 = .ok (.invokevirtual 145, 3) := by decide +kernel
theorem dL_law_1087 : decode cL_law 1087 = .ok (.if_icmp .eq 77, 3) := by decide +kernel
theorem dL_law_1090 : decode cL_law 1090 = .ok (.iconst 0, 1) := by decide +kernel
theorem dL_law_1091 : decode cL_law 1091 = .ok (.ireturn, 1) := by decide +kernel
theorem dL_law_1092 : decode cL_law 1092 = .ok (.aload_n 1, 1) := by decide +kernel
theorem dL_law_1093 : decode cL_law 1093 = .ok (.invokevirtual 146, 3) := by decide +kernel
theorem dL_law_1096 : decode cL_law 1096 = .ok (.aload_n 2, 1) := by decide +kernel
theorem dL_law_1097 : decode cL_law 1097 = .ok (.invokevirtual 149, 3) := by decide +kernel
theorem dL_law_1100 : decode cL_law 1100 = .ok (.if_icmp .eq 64, 3) := by decide +kernel
theorem dL_law_1103 : decode cL_law 1103 = .ok (.iconst 0, 1) := by decide +kernel
theorem dL_law_1104 : decode cL_law 1104 = .ok (.ireturn, 1) := by decide +kernel
theorem dL_law_1105 : decode cL_law 1105 = .ok (.aload_n 1, 1) := by decide +kernel
theorem dL_law_1106 : decode cL_law 1106 = .ok (.aload_n 0, 1) := by decide +kernel
theorem dL_law_1107 : decode cL_law 1107 = .ok (.iload_n 3, 1) := by decide +kernel
theorem dL_law_1108 : decode cL_law 1108 = .ok (.iconst 1, 1) := by decide +kernel
theorem dL_law_1109 : decode cL_law 1109 = .ok (.iadd, 1) := by decide +kernel
theorem dL_law_1110 : decode cL_law 1110 = .ok (.iaload, 1) := by decide +kernel
theorem dL_law_1111 : decode cL_law 1111 = .ok (.invokevirtual 150, 3) := by decide +kernel
theorem dL_law_1114 : decode cL_law 1114 = .ok (.aload_n 2, 1) := by decide +kernel
theorem dL_law_1115 : decode cL_law 1115 = .ok (.aload_n 0, 1) := by decide +kernel
theorem dL_law_1116 : decode cL_law 1116 = .ok (.iload_n 3, 1) := by decide +kernel
theorem dL_law_1117 : decode cL_law 1117 = .ok (.iconst 1, 1) := by decide +kernel
theorem dL_law_1118 : decode cL_law 1118 = .ok (.iadd, 1) := by decide +kernel
theorem dL_law_1119 : decode cL_law 1119 = .ok (.iaload, 1) := by decide +kernel
theorem dL_law_1120 : decode cL_law 1120 = .ok (.invokevirtual 153, 3) := by decide +kernel
theorem dL_law_1123 : decode cL_law 1123 = .ok (.if_icmp .eq 41, 3) := by decide +kernel
theorem dL_law_1126 : decode cL_law 1126 = .ok (.iconst 0, 1) := by decide +kernel
theorem dL_law_1127 : decode cL_law 1127 = .ok (.ireturn, 1) := by decide +kernel
theorem dL_law_1128 : decode cL_law 1128 = .ok (.aload_n 1, 1) := by decide +kernel
theorem dL_law_1129 : decode cL_law 1129 = .ok (.invokevirtual 154, 3) := by decide +kernel
theorem dL_law_1132 : decode cL_law 1132 = .ok (.aload_n 2, 1) := by decide +kernel
theorem dL_law_1133 : decode cL_law 1133 = .ok (.invokevirtual 157, 3) := by decide +kernel
theorem dL_law_1136 : decode cL_law 1136 = .ok (.if_icmp .eq 28, 3) := by decide +kernel
theorem dL_law_1139 : decode cL_law 1139 = .ok (.iconst 0, 1) := by decide +kernel
theorem dL_law_1140 : decode cL_law 1140 = .ok (.ireturn, 1) := by decide +kernel
theorem dL_law_1141 : decode cL_law 1141 = .ok (.aload_n 1, 1) := by decide +kernel
theorem dL_law_1142 : decode cL_law 1142 = .ok (.aload_n 0, 1) := by decide +kernel
theorem dL_law_1143 : decode cL_law 1143 = .ok (.iload_n 3, 1) := by decide +kernel
theorem dL_law_1144 : decode cL_law 1144 = .ok (.iconst 1, 1) := by decide +kernel
theorem dL_law_1145 : decode cL_law 1145 = .ok (.iadd, 1) := by decide +kernel
theorem dL_law_1146 : decode cL_law 1146 = .ok (.iaload, 1) := by decide +kernel
theorem dL_law_1147 : decode cL_law 1147 = .ok (.invokevirtual 158, 3) := by decide +kernel
theorem dL_law_1150 : decode cL_law 1150 = .ok (.aload_n 2, 1) := by decide +kernel
theorem dL_law_1151 : decode cL_law 1151 = .ok (.aload_n 0, 1) := by decide +kernel
theorem dL_law_1152 : decode cL_law 1152 = .ok (.iload_n 3, 1) := by decide +kernel
theorem dL_law_1153 : decode cL_law 1153 = .ok (.iconst 1, 1) := by decide +kernel
theorem dL_law_1154 : decode cL_law 1154 = .ok (.iadd, 1) := by decide +kernel
theorem dL_law_1155 : decode cL_law 1155 = .ok (.iaload, 1) := by decide +kernel
theorem dL_law_1156 : decode cL_law 1156 = .ok (.invokevirtual 161, 3) := by decide +kernel
theorem dL_law_1159 : decode cL_law 1159 = .ok (.if_icmp .eq 5, 3) := by decide +kernel
theorem dL_law_1162 : decode cL_law 1162 = .ok (.iconst 0, 1) := by decide +kernel
theorem dL_law_1163 : decode cL_law 1163 = .ok (.ireturn, 1) := by decide +kernel
theorem dL_law_1164 : decode cL_law 1164 = .ok (.iinc 3 6, 3) := by decide +kernel
theorem dL_law_1167 : decode cL_law 1167 = .ok (.goto (-1149), 3) := by decide +kernel
theorem dL_law_1170 : decode cL_law 1170 = .ok (.iconst 1, 1) := by decide +kernel
theorem dL_law_1171 : decode cL_law 1171 = .ok (.ireturn, 1) := by decide +kernel
