theorem dX0_init_0 : decode cX0_init 0 = .ok (.aload_n 0, 1) := by decide +kernel
theorem dX0_init_1 : decode cX0_init 1 = .ok (.invokespecial 3, 3) := by decide +kernel
theorem dX0_init_4 : decode cX0_init 4 = .ok (.aload_n 0, 1) := by decide +kernel
theorem dX0_init_5 : decode cX0_init 5 = .ok (.aload_n 1, 1) := by decide +kernel
theorem dX0_init_6 : decode cX0_init 6 = .ok (.putfield 9, 3) := by decide +kernel
theorem dX0_init_9 : decode cX0_init 9 = .ok (.aload_n 0, 1) := by decide +kernel
theorem dX0_init_10 : decode cX0_init 10 = .ok (.aload_n 2, 1) := by decide +kernel
theorem dX0_init_11 : decode cX0_init 11 = .ok (.putfield 15, 3) := by decide +kernel
theorem dX0_init_14 : decode cX0_init 14 = .ok (.return_, 1) := by decide +kernel
theorem dX0_pass_0 : decode cX0_pass 0 = .ok (.aload_n 0, 1) := by decide +kernel
theorem dX0_pass_1 : decode cX0_pass 1 = .ok (.aload_n 1, 1) := by decide +kernel
theorem dX0_pass_2 : decode cX0_pass 2 = .ok (.aload_n 2, 1) := by decide +kernel
theorem dX0_pass_3 : decode cX0_pass 3 = .ok (.invokevirtual 19, 3) := by decide +kernel
theorem dX0_pass_6 : decode cX0_pass 6 = .ok (.istore 4, 2) := by decide +kernel
theorem dX0_pass_8 : decode cX0_pass 8 = .ok (.aload_n 2, 1) := by decide +kernel
theorem dX0_pass_9 : decode cX0_pass 9 = .ok (.aload_n 2, 1) := by decide +kernel
theorem dX0_pass_10 : decode cX0_pass 10 = .ok (.getfield 23, 3) := by decide +kernel
theorem dX0_pass_13 : decode cX0_pass 13 = .ok (.iload 4, 2) := by decide +kernel
theorem dX0_pass_15 : decode cX0_pass 15 = .ok (.iadd, 1) := by decide +kernel
theorem dX0_pass_16 : decode cX0_pass 16 = .ok (.sipush 9999, 3) := by decide +kernel
theorem dX0_pass_19 : decode cX0_pass 19 = .ok (.if_icmp .le 9, 3) := by decide +kernel
theorem dX0_pass_22 : decode cX0_pass 22 = .ok (.sipush 9999, 3) := by decide +kernel
theorem dX0_pass_25 : decode cX0_pass 25 = .ok (.goto 10, 3) := by decide +kernel
theorem dX0_pass_28 : decode cX0_pass 28 = .ok (.aload_n 2, 1) := by decide +kernel
theorem dX0_pass_29 : decode cX0_pass 29 = .ok (.getfield 23, 3) := by decide +kernel
theorem dX0_pass_32 : decode cX0_pass 32 = .ok (.iload 4, 2) := by decide +kernel
theorem dX0_pass_34 : decode cX0_pass 34 = .ok (.iadd, 1) := by decide +kernel
theorem dX0_pass_35 : decode cX0_pass 35 = .ok (.putfield 23, 3) := by decide +kernel
theorem dX0_pass_38 : decode cX0_pass 38 = .ok (.aload_n 1, 1) := by decide +kernel
theorem dX0_pass_39 : decode cX0_pass 39 = .ok (.getfield 29, 3) := by decide +kernel
theorem dX0_pass_42 : decode cX0_pass 42 = .ok (.iconst 2, 1) := by decide +kernel
theorem dX0_pass_43 : decode cX0_pass 43 = .ok (.iaload, 1) := by decide +kernel
theorem dX0_pass_44 : decode cX0_pass 44 = .ok (.istore 5, 2) := by decide +kernel
theorem dX0_pass_46 : decode cX0_pass 46 = .ok (.iconst 0, 1) := by decide +kernel
theorem dX0_pass_47 : decode cX0_pass 47 = .ok (.istore 6, 2) := by decide +kernel
theorem dX0_pass_49 : decode cX0_pass 49 = .ok (.iload 5, 2) := by decide +kernel
theorem dX0_pass_51 : decode cX0_pass 51 = .ok (.ifCond .le 87, 3) := by decide +kernel
theorem dX0_pass_54 : decode cX0_pass 54 = .ok (.aload_n 2, 1) := by decide +kernel
theorem dX0_pass_55 : decode cX0_pass 55 = .ok (.getfield 35, 3) := by decide +kernel
theorem dX0_pass_58 : decode cX0_pass 58 = .ok (.iload 5, 2) := by decide +kernel
theorem dX0_pass_60 : decode cX0_pass 60 = .ok (.irem, 1) := by decide +kernel
theorem dX0_pass_61 : decode cX0_pass 61 = .ok (.istore 7, 2) := by decide +kernel
theorem dX0_pass_63 : decode cX0_pass 63 = .ok (.iload_n 3, 1) := by decide +kernel
theorem dX0_pass_64 : decode cX0_pass 64 = .ok (.iconst (-1), 1) := by decide +kernel
theorem dX0_pass_65 : decode cX0_pass 65 = .ok (.if_icmp .ne 10, 3) := by decide +kernel
theorem dX0_pass_68 : decode cX0_pass 68 = .ok (.aload_n 1, 1) := by decide +kernel
theorem dX0_pass_69 : decode cX0_pass 69 = .ok (.invokevirtual 38, 3) := by decide +kernel
theorem dX0_pass_72 : decode cX0_pass 72 = .ok (.goto 13, 3) := by decide +kernel
theorem dX0_pass_75 : decode cX0_pass 75 = .ok (.aload_n 1, 1) := by decide +kernel
theorem dX0_pass_76 : decode cX0_pass 76 = .ok (.invokevirtual 38, 3) := by decide +kernel
theorem dX0_pass_79 : decode cX0_pass 79 = .ok (.iconst 1, 1) := by decide +kernel
theorem dX0_pass_80 : decode cX0_pass 80 = .ok (.iload_n 3, 1) := by decide +kernel
theorem dX0_pass_81 : decode cX0_pass 81 = .ok (.ishl, 1) := by decide +kernel
theorem dX0_pass_82 : decode cX0_pass 82 = .ok (.iconst (-1), 1) := by decide +kernel
theorem dX0_pass_83 : decode cX0_pass 83 = .ok (.ixor, 1) := by decide +kernel
theorem dX0_pass_84 : decode cX0_pass 84 = .ok (.iand, 1) := by decide +kernel
theorem dX0_pass_85 : decode cX0_pass 85 = .ok (.istore 8, 2) := by decide +kernel
theorem dX0_pass_87 : decode cX0_pass 87 = .ok (.aload_n 0, 1) := by decide +kernel
theorem dX0_pass_88 : decode cX0_pass 88 = .ok (.getfield 9, 3) := by decide +kernel
theorem dX0_pass_91 : decode cX0_pass 91 = .ok (.aload_n 1, 1) := by decide +kernel
theorem dX0_pass_92 : decode cX0_pass 92 = .ok (.aload_n 2, 1) := by decide +kernel
theorem dX0_pass_93 : decode cX0_pass 93 = .ok (.iload 7, 2) := by decide +kernel
theorem dX0_pass_95 : decode cX0_pass 95 = .ok (.invokevirtual 42, 3) := by decide +kernel
theorem dX0_pass_98 : decode cX0_pass 98 = .ok (.aload_n 0, 1) := by decide +kernel
theorem dX0_pass_99 : decode cX0_pass 99 = .ok (.getfield 9, 3) := by decide +kernel
theorem dX0_pass_102 : decode cX0_pass 102 = .ok (.aload_n 2, 1) := by decide +kernel
theorem dX0_pass_103 : decode cX0_pass 103 = .ok (.getfield 48, 3) := by decide +kernel
theorem dX0_pass_106 : decode cX0_pass 106 = .ok (.iload 8, 2) := by decide +kernel
theorem dX0_pass_108 : decode cX0_pass 108 = .ok (.invokevirtual 51, 3) := by decide +kernel
theorem dX0_pass_111 : decode cX0_pass 111 = .ok (.istore 9, 2) := by decide +kernel
theorem dX0_pass_113 : decode cX0_pass 113 = .ok (.iload 9, 2) := by decide +kernel
theorem dX0_pass_115 : decode cX0_pass 115 = .ok (.iconst (-1), 1) := by decide +kernel
theorem dX0_pass_116 : decode cX0_pass 116 = .ok (.if_icmp .eq 22, 3) := by decide +kernel
theorem dX0_pass_119 : decode cX0_pass 119 = .ok (.aload_n 1, 1) := by decide +kernel
theorem dX0_pass_120 : decode cX0_pass 120 = .ok (.aload_n 2, 1) := by decide +kernel
theorem dX0_pass_121 : decode cX0_pass 121 = .ok (.iload 7, 2) := by decide +kernel
theorem dX0_pass_123 : decode cX0_pass 123 = .ok (.iload 9, 2) := by decide +kernel
theorem dX0_pass_125 : decode cX0_pass 125 = .ok (.invokestatic 55, 3) := by decide +kernel
theorem dX0_pass_128 : decode cX0_pass 128 = .ok (.istore 6, 2) := by decide +kernel
theorem dX0_pass_130 : decode cX0_pass 130 = .ok (.aload_n 0, 1) := by decide +kernel
theorem dX0_pass_131 : decode cX0_pass 131 = .ok (.aload_n 1, 1) := by decide +kernel
theorem dX0_pass_132 : decode cX0_pass 132 = .ok (.aload_n 2, 1) := by decide +kernel
theorem dX0_pass_133 : decode cX0_pass 133 = .ok (.iload 9, 2) := by decide +kernel
theorem dX0_pass_135 : decode cX0_pass 135 = .ok (.invokevirtual 59, 3) := by decide +kernel
theorem dX0_pass_138 : decode cX0_pass 138 = .ok (.aload_n 2, 1) := by decide +kernel
theorem dX0_pass_139 : decode cX0_pass 139 = .ok (.aload_n 2, 1) := by decide +kernel
theorem dX0_pass_140 : decode cX0_pass 140 = .ok (.getfield 35, 3) := by decide +kernel
theorem dX0_pass_143 : decode cX0_pass 143 = .ok (.sipush 999, 3) := by decide +kernel
theorem dX0_pass_146 : decode cX0_pass 146 = .ok (.if_icmp .ge 12, 3) := by decide +kernel
theorem dX0_pass_149 : decode cX0_pass 149 = .ok (.aload_n 2, 1) := by decide +kernel
theorem dX0_pass_150 : decode cX0_pass 150 = .ok (.getfield 35, 3) := by decide +kernel
theorem dX0_pass_153 : decode cX0_pass 153 = .ok (.iconst 1, 1) := by decide +kernel
theorem dX0_pass_154 : decode cX0_pass 154 = .ok (.iadd, 1) := by decide +kernel
theorem dX0_pass_155 : decode cX0_pass 155 = .ok (.goto 6, 3) := by decide +kernel
theorem dX0_pass_158 : decode cX0_pass 158 = .ok (.sipush 999, 3) := by decide +kernel
theorem dX0_pass_161 : decode cX0_pass 161 = .ok (.putfield 35, 3) := by decide +kernel
theorem dX0_pass_164 : decode cX0_pass 164 = .ok (.iload 6, 2) := by decide +kernel
theorem dX0_pass_166 : decode cX0_pass 166 = .ok (.ireturn, 1) := by decide +kernel
theorem dX0_gift_0 : decode cX0_gift 0 = .ok (.aload_n 1, 1) := by decide +kernel
theorem dX0_gift_1 : decode cX0_gift 1 = .ok (.iconst 2, 1) := by decide +kernel
theorem dX0_gift_2 : decode cX0_gift 2 = .ok (.invokevirtual 62, 3) := by decide +kernel
theorem dX0_gift_5 : decode cX0_gift 5 = .ok (.ifCond .ne 6, 3) := by decide +kernel
theorem dX0_gift_8 : decode cX0_gift 8 = .ok (.bipush 9, 2) := by decide +kernel
theorem dX0_gift_10 : decode cX0_gift 10 = .ok (.ireturn, 1) := by decide +kernel
theorem dX0_gift_11 : decode cX0_gift 11 = .ok (.aload_n 0, 1) := by decide +kernel
theorem dX0_gift_12 : decode cX0_gift 12 = .ok (.getfield 15, 3) := by decide +kernel
theorem dX0_gift_15 : decode cX0_gift 15 = .ok (.iconst (-1), 1) := by decide +kernel
theorem dX0_gift_16 : decode cX0_gift 16 = .ok (.aload_n 2, 1) := by decide +kernel
theorem dX0_gift_17 : decode cX0_gift 17 = .ok (.getfield 35, 3) := by decide +kernel
theorem dX0_gift_20 : decode cX0_gift 20 = .ok (.invokevirtual 68, 3) := by decide +kernel
theorem dX0_gift_23 : decode cX0_gift 23 = .ok (.aload_n 0, 1) := by decide +kernel
theorem dX0_gift_24 : decode cX0_gift 24 = .ok (.getfield 15, 3) := by decide +kernel
theorem dX0_gift_27 : decode cX0_gift 27 = .ok (.bipush (-8), 2) := by decide +kernel
theorem dX0_gift_29 : decode cX0_gift 29 = .ok (.aload_n 2, 1) := by decide +kernel
theorem dX0_gift_30 : decode cX0_gift 30 = .ok (.getfield 23, 3) := by decide +kernel
theorem dX0_gift_33 : decode cX0_gift 33 = .ok (.invokevirtual 68, 3) := by decide +kernel
theorem dX0_gift_36 : decode cX0_gift 36 = .ok (.aload_n 0, 1) := by decide +kernel
theorem dX0_gift_37 : decode cX0_gift 37 = .ok (.getfield 15, 3) := by decide +kernel
theorem dX0_gift_40 : decode cX0_gift 40 = .ok (.bipush (-9), 2) := by decide +kernel
theorem dX0_gift_42 : decode cX0_gift 42 = .ok (.aload_n 2, 1) := by decide +kernel
theorem dX0_gift_43 : decode cX0_gift 43 = .ok (.aload_n 1, 1) := by decide +kernel
theorem dX0_gift_44 : decode cX0_gift 44 = .ok (.getfield 29, 3) := by decide +kernel
theorem dX0_gift_47 : decode cX0_gift 47 = .ok (.iconst 2, 1) := by decide +kernel
theorem dX0_gift_48 : decode cX0_gift 48 = .ok (.iaload, 1) := by decide +kernel
theorem dX0_gift_49 : decode cX0_gift 49 = .ok (.iconst (-1), 1) := by decide +kernel
theorem dX0_gift_50 : decode cX0_gift 50 = .ok (.invokevirtual 72, 3) := by decide +kernel
theorem dX0_gift_53 : decode cX0_gift 53 = .ok (.invokevirtual 68, 3) := by decide +kernel
theorem dX0_gift_56 : decode cX0_gift 56 = .ok (.aload_n 0, 1) := by decide +kernel
theorem dX0_gift_57 : decode cX0_gift 57 = .ok (.getfield 15, 3) := by decide +kernel
theorem dX0_gift_60 : decode cX0_gift 60 = .ok (.aload_n 1, 1) := by decide +kernel
theorem dX0_gift_61 : decode cX0_gift 61 = .ok (.iconst 2, 1) := by decide +kernel
theorem dX0_gift_62 : decode cX0_gift 62 = .ok (.invokevirtual 76, 3) := by decide +kernel
theorem dX0_gift_65 : decode cX0_gift 65 = .ok (.istore_n 3, 1) := by decide +kernel
theorem dX0_gift_66 : decode cX0_gift 66 = .ok (.iload_n 3, 1) := by decide +kernel
theorem dX0_gift_67 : decode cX0_gift 67 = .ok (.ifCond .ge 7, 3) := by decide +kernel
theorem dX0_gift_70 : decode cX0_gift 70 = .ok (.iconst 0, 1) := by decide +kernel
theorem dX0_gift_71 : decode cX0_gift 71 = .ok (.goto 15, 3) := by decide +kernel
theorem dX0_gift_74 : decode cX0_gift 74 = .ok (.iload_n 3, 1) := by decide +kernel
theorem dX0_gift_75 : decode cX0_gift 75 = .ok (.bipush 99, 2) := by decide +kernel
theorem dX0_gift_77 : decode cX0_gift 77 = .ok (.if_icmp .le 8, 3) := by decide +kernel
theorem dX0_gift_80 : decode cX0_gift 80 = .ok (.bipush 99, 2) := by decide +kernel
theorem dX0_gift_82 : decode cX0_gift 82 = .ok (.goto 4, 3) := by decide +kernel
theorem dX0_gift_85 : decode cX0_gift 85 = .ok (.iload_n 3, 1) := by decide +kernel
theorem dX0_gift_86 : decode cX0_gift 86 = .ok (.ireturn, 1) := by decide +kernel
theorem dX0_paintIfPaid_0 : decode cX0_paintIfPaid 0 = .ok (.aload_n 0, 1) := by decide +kernel
theorem dX0_paintIfPaid_1 : decode cX0_paintIfPaid 1 = .ok (.iconst 1, 1) := by decide +kernel
theorem dX0_paintIfPaid_2 : decode cX0_paintIfPaid 2 = .ok (.iload_n 3, 1) := by decide +kernel
theorem dX0_paintIfPaid_3 : decode cX0_paintIfPaid 3 = .ok (.iconst 3, 1) := by decide +kernel
theorem dX0_paintIfPaid_4 : decode cX0_paintIfPaid 4 = .ok (.invokevirtual 80, 3) := by decide +kernel
theorem dX0_paintIfPaid_7 : decode cX0_paintIfPaid 7 = .ok (.istore 4, 2) := by decide +kernel
theorem dX0_paintIfPaid_9 : decode cX0_paintIfPaid 9 = .ok (.iload 4, 2) := by decide +kernel
theorem dX0_paintIfPaid_11 : decode cX0_paintIfPaid 11 = .ok (.aload_n 1, 1) := by decide +kernel
theorem dX0_paintIfPaid_12 : decode cX0_paintIfPaid 12 = .ok (.getfield 23, 3) := by decide +kernel
theorem dX0_paintIfPaid_15 : decode cX0_paintIfPaid 15 = .ok (.if_icmp .gt 13, 3) := by decide +kernel
theorem dX0_paintIfPaid_18 : decode cX0_paintIfPaid 18 = .ok (.aload_n 1, 1) := by decide +kernel
theorem dX0_paintIfPaid_19 : decode cX0_paintIfPaid 19 = .ok (.getfield 84, 3) := by decide +kernel
theorem dX0_paintIfPaid_22 : decode cX0_paintIfPaid 22 = .ok (.iload_n 2, 1) := by decide +kernel
theorem dX0_paintIfPaid_23 : decode cX0_paintIfPaid 23 = .ok (.iaload, 1) := by decide +kernel
theorem dX0_paintIfPaid_24 : decode cX0_paintIfPaid 24 = .ok (.iload_n 3, 1) := by decide +kernel
theorem dX0_paintIfPaid_25 : decode cX0_paintIfPaid 25 = .ok (.if_icmp .ne 5, 3) := by decide +kernel
theorem dX0_paintIfPaid_28 : decode cX0_paintIfPaid 28 = .ok (.iconst 0, 1) := by decide +kernel
theorem dX0_paintIfPaid_29 : decode cX0_paintIfPaid 29 = .ok (.ireturn, 1) := by decide +kernel
theorem dX0_paintIfPaid_30 : decode cX0_paintIfPaid 30 = .ok (.aload_n 1, 1) := by decide +kernel
theorem dX0_paintIfPaid_31 : decode cX0_paintIfPaid 31 = .ok (.getfield 84, 3) := by decide +kernel
theorem dX0_paintIfPaid_34 : decode cX0_paintIfPaid 34 = .ok (.iload_n 2, 1) := by decide +kernel
theorem dX0_paintIfPaid_35 : decode cX0_paintIfPaid 35 = .ok (.iload_n 3, 1) := by decide +kernel
theorem dX0_paintIfPaid_36 : decode cX0_paintIfPaid 36 = .ok (.iastore, 1) := by decide +kernel
theorem dX0_paintIfPaid_37 : decode cX0_paintIfPaid 37 = .ok (.aload_n 1, 1) := by decide +kernel
theorem dX0_paintIfPaid_38 : decode cX0_paintIfPaid 38 = .ok (.dup, 1) := by decide +kernel
theorem dX0_paintIfPaid_39 : decode cX0_paintIfPaid 39 = .ok (.getfield 23, 3) := by decide +kernel
theorem dX0_paintIfPaid_42 : decode cX0_paintIfPaid 42 = .ok (.iload 4, 2) := by decide +kernel
theorem dX0_paintIfPaid_44 : decode cX0_paintIfPaid 44 = .ok (.isub, 1) := by decide +kernel
theorem dX0_paintIfPaid_45 : decode cX0_paintIfPaid 45 = .ok (.putfield 23, 3) := by decide +kernel
theorem dX0_paintIfPaid_48 : decode cX0_paintIfPaid 48 = .ok (.aload_n 1, 1) := by decide +kernel
theorem dX0_paintIfPaid_49 : decode cX0_paintIfPaid 49 = .ok (.iload_n 2, 1) := by decide +kernel
theorem dX0_paintIfPaid_50 : decode cX0_paintIfPaid 50 = .ok (.iload_n 3, 1) := by decide +kernel
theorem dX0_paintIfPaid_51 : decode cX0_paintIfPaid 51 = .ok (.invokevirtual 87, 3) := by decide +kernel
theorem dX0_paintIfPaid_54 : decode cX0_paintIfPaid 54 = .ok (.iconst 1, 1) := by decide +kernel
theorem dX0_paintIfPaid_55 : decode cX0_paintIfPaid 55 = .ok (.ireturn, 1) := by decide +kernel
theorem dX0_changeMoods_0 : decode cX0_changeMoods 0 = .ok (.iconst 0, 1) := by decide +kernel
theorem dX0_changeMoods_1 : decode cX0_changeMoods 1 = .ok (.istore 4, 2) := by decide +kernel
theorem dX0_changeMoods_3 : decode cX0_changeMoods 3 = .ok (.iload 4, 2) := by decide +kernel
theorem dX0_changeMoods_5 : decode cX0_changeMoods 5 = .ok (.aload_n 1, 1) := by decide +kernel
theorem dX0_changeMoods_6 : decode cX0_changeMoods 6 = .ok (.getfield 29, 3) := by decide +kernel
theorem dX0_changeMoods_9 : decode cX0_changeMoods 9 = .ok (.iconst 0, 1) := by decide +kernel
theorem dX0_changeMoods_10 : decode cX0_changeMoods 10 = .ok (.iaload, 1) := by decide +kernel
theorem dX0_changeMoods_11 : decode cX0_changeMoods 11 = .ok (.if_icmp .ge 67, 3) := by decide +kernel
theorem dX0_changeMoods_14 : decode cX0_changeMoods 14 = .ok (.aload_n 2, 1) := by decide +kernel
theorem dX0_changeMoods_15 : decode cX0_changeMoods 15 = .ok (.getfield 90, 3) := by decide +kernel
theorem dX0_changeMoods_18 : decode cX0_changeMoods 18 = .ok (.iload 4, 2) := by decide +kernel
theorem dX0_changeMoods_20 : decode cX0_changeMoods 20 = .ok (.iaload, 1) := by decide +kernel
theorem dX0_changeMoods_21 : decode cX0_changeMoods 21 = .ok (.aload_n 0, 1) := by decide +kernel
theorem dX0_changeMoods_22 : decode cX0_changeMoods 22 = .ok (.getfield 9, 3) := by decide +kernel
theorem dX0_changeMoods_25 : decode cX0_changeMoods 25 = .ok (.iload 4, 2) := by decide +kernel
theorem dX0_changeMoods_27 : decode cX0_changeMoods 27 = .ok (.invokevirtual 93, 3) := by decide +kernel
theorem dX0_changeMoods_30 : decode cX0_changeMoods 30 = .ok (.iload_n 3, 1) := by decide +kernel
theorem dX0_changeMoods_31 : decode cX0_changeMoods 31 = .ok (.if_icmp .ne 7, 3) := by decide +kernel
theorem dX0_changeMoods_34 : decode cX0_changeMoods 34 = .ok (.iconst 1, 1) := by decide +kernel
theorem dX0_changeMoods_35 : decode cX0_changeMoods 35 = .ok (.goto 4, 3) := by decide +kernel
theorem dX0_changeMoods_38 : decode cX0_changeMoods 38 = .ok (.iconst (-1), 1) := by decide +kernel
theorem dX0_changeMoods_39 : decode cX0_changeMoods 39 = .ok (.iadd, 1) := by decide +kernel
theorem dX0_changeMoods_40 : decode cX0_changeMoods 40 = .ok (.istore 5, 2) := by decide +kernel
theorem dX0_changeMoods_42 : decode cX0_changeMoods 42 = .ok (.aload_n 2, 1) := by decide +kernel
theorem dX0_changeMoods_43 : decode cX0_changeMoods 43 = .ok (.getfield 90, 3) := by decide +kernel
theorem dX0_changeMoods_46 : decode cX0_changeMoods 46 = .ok (.iload 4, 2) := by decide +kernel
theorem dX0_changeMoods_48 : decode cX0_changeMoods 48 = .ok (.iload 5, 2) := by decide +kernel
theorem dX0_changeMoods_50 : decode cX0_changeMoods 50 = .ok (.ifCond .ge 7, 3) := by decide +kernel
theorem dX0_changeMoods_53 : decode cX0_changeMoods 53 = .ok (.iconst 0, 1) := by decide +kernel
theorem dX0_changeMoods_54 : decode cX0_changeMoods 54 = .ok (.goto 17, 3) := by decide +kernel
theorem dX0_changeMoods_57 : decode cX0_changeMoods 57 = .ok (.iload 5, 2) := by decide +kernel
theorem dX0_changeMoods_59 : decode cX0_changeMoods 59 = .ok (.bipush 9, 2) := by decide +kernel
theorem dX0_changeMoods_61 : decode cX0_changeMoods 61 = .ok (.if_icmp .le 8, 3) := by decide +kernel
theorem dX0_changeMoods_64 : decode cX0_changeMoods 64 = .ok (.bipush 9, 2) := by decide +kernel
theorem dX0_changeMoods_66 : decode cX0_changeMoods 66 = .ok (.goto 5, 3) := by decide +kernel
theorem dX0_changeMoods_69 : decode cX0_changeMoods 69 = .ok (.iload 5, 2) := by decide +kernel
theorem dX0_changeMoods_71 : decode cX0_changeMoods 71 = .ok (.iastore, 1) := by decide +kernel
theorem dX0_changeMoods_72 : decode cX0_changeMoods 72 = .ok (.iinc 4 1, 3) := by decide +kernel
theorem dX0_changeMoods_75 : decode cX0_changeMoods 75 = .ok (.goto (-72), 3) := by decide +kernel
theorem dX0_changeMoods_78 : decode cX0_changeMoods 78 = .ok (.return_, 1) := by decide +kernel
theorem dX1_init_0 : decode cX1_init 0 = .ok (.aload_n 0, 1) := by decide +kernel
theorem dX1_init_1 : decode cX1_init 1 = .ok (.invokespecial 3, 3) := by decide +kernel
theorem dX1_init_4 : decode cX1_init 4 = .ok (.aload_n 0, 1) := by decide +kernel
theorem dX1_init_5 : decode cX1_init 5 = .ok (.sipush 216, 3) := by decide +kernel
theorem dX1_init_8 : decode cX1_init 8 = .ok (.newarray .int, 2) := by decide +kernel
theorem dX1_init_10 : decode cX1_init 10 = .ok (.putfield 9, 3) := by decide +kernel
theorem dX1_init_13 : decode cX1_init 13 = .ok (.aload_n 0, 1) := by decide +kernel
theorem dX1_init_14 : decode cX1_init 14 = .ok (.bipush 6, 2) := by decide +kernel
theorem dX1_init_16 : decode cX1_init 16 = .ok (.newarray .int, 2) := by decide +kernel
theorem dX1_init_18 : decode cX1_init 18 = .ok (.putfield 15, 3) := by decide +kernel
theorem dX1_init_21 : decode cX1_init 21 = .ok (.aload_n 0, 1) := by decide +kernel
theorem dX1_init_22 : decode cX1_init 22 = .ok (.bipush 6, 2) := by decide +kernel
theorem dX1_init_24 : decode cX1_init 24 = .ok (.newarray .int, 2) := by decide +kernel
theorem dX1_init_26 : decode cX1_init 26 = .ok (.putfield 18, 3) := by decide +kernel
theorem dX1_init_29 : decode cX1_init 29 = .ok (.aload_n 0, 1) := by decide +kernel
theorem dX1_init_30 : decode cX1_init 30 = .ok (.iconst 0, 1) := by decide +kernel
theorem dX1_init_31 : decode cX1_init 31 = .ok (.putfield 21, 3) := by decide +kernel
theorem dX1_init_34 : decode cX1_init 34 = .ok (.aload_n 0, 1) := by decide +kernel
theorem dX1_init_35 : decode cX1_init 35 = .ok (.iconst 0, 1) := by decide +kernel
theorem dX1_init_36 : decode cX1_init 36 = .ok (.putfield 25, 3) := by decide +kernel
theorem dX1_init_39 : decode cX1_init 39 = .ok (.aload_n 0, 1) := by decide +kernel
theorem dX1_init_40 : decode cX1_init 40 = .ok (.iconst (-1), 1) := by decide +kernel
theorem dX1_init_41 : decode cX1_init 41 = .ok (.putfield 28, 3) := by decide +kernel
theorem dX1_init_44 : decode cX1_init 44 = .ok (.aload_n 0, 1) := by decide +kernel
theorem dX1_init_45 : decode cX1_init 45 = .ok (.iconst 0, 1) := by decide +kernel
theorem dX1_init_46 : decode cX1_init 46 = .ok (.putfield 31, 3) := by decide +kernel
theorem dX1_init_49 : decode cX1_init 49 = .ok (.aload_n 0, 1) := by decide +kernel
theorem dX1_init_50 : decode cX1_init 50 = .ok (.aload_n 1, 1) := by decide +kernel
theorem dX1_init_51 : decode cX1_init 51 = .ok (.putfield 34, 3) := by decide +kernel
theorem dX1_init_54 : decode cX1_init 54 = .ok (.aload_n 0, 1) := by decide +kernel
theorem dX1_init_55 : decode cX1_init 55 = .ok (.aload_n 2, 1) := by decide +kernel
theorem dX1_init_56 : decode cX1_init 56 = .ok (.putfield 38, 3) := by decide +kernel
theorem dX1_init_59 : decode cX1_init 59 = .ok (.aload_n 0, 1) := by decide +kernel
theorem dX1_init_60 : decode cX1_init 60 = .ok (.aload_n 3, 1) := by decide +kernel
theorem dX1_init_61 : decode cX1_init 61 = .ok (.putfield 42, 3) := by decide +kernel
theorem dX1_init_64 : decode cX1_init 64 = .ok (.return_, 1) := by decide +kernel
theorem dX1_suppose_0 : decode cX1_suppose 0 = .ok (.aload_n 0, 1) := by decide +kernel
theorem dX1_suppose_1 : decode cX1_suppose 1 = .ok (.iload_n 1, 1) := by decide +kernel
theorem dX1_suppose_2 : decode cX1_suppose 2 = .ok (.putfield 28, 3) := by decide +kernel
theorem dX1_suppose_5 : decode cX1_suppose 5 = .ok (.aload_n 0, 1) := by decide +kernel
theorem dX1_suppose_6 : decode cX1_suppose 6 = .ok (.iload_n 2, 1) := by decide +kernel
theorem dX1_suppose_7 : decode cX1_suppose 7 = .ok (.putfield 31, 3) := by decide +kernel
theorem dX1_suppose_10 : decode cX1_suppose 10 = .ok (.return_, 1) := by decide +kernel
theorem dX1_sit_0 : decode cX1_sit 0 = .ok (.aload_n 0, 1) := by decide +kernel
theorem dX1_sit_1 : decode cX1_sit 1 = .ok (.aload_n 1, 1) := by decide +kernel
theorem dX1_sit_2 : decode cX1_sit 2 = .ok (.putfield 38, 3) := by decide +kernel
theorem dX1_sit_5 : decode cX1_sit 5 = .ok (.aload_n 0, 1) := by decide +kernel
theorem dX1_sit_6 : decode cX1_sit 6 = .ok (.aload_n 2, 1) := by decide +kernel
theorem dX1_sit_7 : decode cX1_sit 7 = .ok (.putfield 42, 3) := by decide +kernel
theorem dX1_sit_10 : decode cX1_sit 10 = .ok (.aload_n 0, 1) := by decide +kernel
theorem dX1_sit_11 : decode cX1_sit 11 = .ok (.iload_n 3, 1) := by decide +kernel
theorem dX1_sit_12 : decode cX1_sit 12 = .ok (.putfield 21, 3) := by decide +kernel
theorem dX1_sit_15 : decode cX1_sit 15 = .ok (.aload_n 0, 1) := by decide +kernel
theorem dX1_sit_16 : decode cX1_sit 16 = .ok (.getfield 9, 3) := by decide +kernel
theorem dX1_sit_19 : decode cX1_sit 19 = .ok (.ldc 46, 2) := by decide +kernel
theorem dX1_sit_21 : decode cX1_sit 21 = .ok (.invokestatic 47, 3) := by decide +kernel
theorem dX1_sit_24 : decode cX1_sit 24 = .ok (.aload_n 0, 1) := by decide +kernel
theorem dX1_sit_25 : decode cX1_sit 25 = .ok (.getfield 15, 3) := by decide +kernel
theorem dX1_sit_28 : decode cX1_sit 28 = .ok (.iconst 0, 1) := by decide +kernel
theorem dX1_sit_29 : decode cX1_sit 29 = .ok (.invokestatic 47, 3) := by decide +kernel
theorem dX1_sit_32 : decode cX1_sit 32 = .ok (.aload_n 0, 1) := by decide +kernel
theorem dX1_sit_33 : decode cX1_sit 33 = .ok (.iconst 0, 1) := by decide +kernel
theorem dX1_sit_34 : decode cX1_sit 34 = .ok (.putfield 25, 3) := by decide +kernel
theorem dX1_sit_37 : decode cX1_sit 37 = .ok (.iconst 0, 1) := by decide +kernel
theorem dX1_sit_38 : decode cX1_sit 38 = .ok (.istore 4, 2) := by decide +kernel
theorem dX1_sit_40 : decode cX1_sit 40 = .ok (.iload 4, 2) := by decide +kernel
theorem dX1_sit_42 : decode cX1_sit 42 = .ok (.aload_n 0, 1) := by decide +kernel
theorem dX1_sit_43 : decode cX1_sit 43 = .ok (.getfield 38, 3) := by decide +kernel
theorem dX1_sit_46 : decode cX1_sit 46 = .ok (.getfield 53, 3) := by decide +kernel
theorem dX1_sit_49 : decode cX1_sit 49 = .ok (.iconst 0, 1) := by decide +kernel
theorem dX1_sit_50 : decode cX1_sit 50 = .ok (.iaload, 1) := by decide +kernel
theorem dX1_sit_51 : decode cX1_sit 51 = .ok (.if_icmp .ge 54, 3) := by decide +kernel
theorem dX1_sit_54 : decode cX1_sit 54 = .ok (.aload_n 0, 1) := by decide +kernel
theorem dX1_sit_55 : decode cX1_sit 55 = .ok (.iload 4, 2) := by decide +kernel
theorem dX1_sit_57 : decode cX1_sit 57 = .ok (.invokevirtual 58, 3) := by decide +kernel
theorem dX1_sit_60 : decode cX1_sit 60 = .ok (.aload_n 0, 1) := by decide +kernel
theorem dX1_sit_61 : decode cX1_sit 61 = .ok (.getfield 38, 3) := by decide +kernel
theorem dX1_sit_64 : decode cX1_sit 64 = .ok (.iconst 1, 1) := by decide +kernel
theorem dX1_sit_65 : decode cX1_sit 65 = .ok (.invokevirtual 62, 3) := by decide +kernel
theorem dX1_sit_68 : decode cX1_sit 68 = .ok (.ifCond .eq 18, 3) := by decide +kernel
theorem dX1_sit_71 : decode cX1_sit 71 = .ok (.aload_n 0, 1) := by decide +kernel
theorem dX1_sit_72 : decode cX1_sit 72 = .ok (.getfield 34, 3) := by decide +kernel
theorem dX1_sit_75 : decode cX1_sit 75 = .ok (.aload_n 0, 1) := by decide +kernel
theorem dX1_sit_76 : decode cX1_sit 76 = .ok (.getfield 38, 3) := by decide +kernel
theorem dX1_sit_79 : decode cX1_sit 79 = .ok (.iconst 1, 1) := by decide +kernel
theorem dX1_sit_80 : decode cX1_sit 80 = .ok (.invokevirtual 66, 3) := by decide +kernel
theorem dX1_sit_83 : decode cX1_sit 83 = .ok (.ifCond .eq 16, 3) := by decide +kernel
theorem dX1_sit_86 : decode cX1_sit 86 = .ok (.aload_n 0, 1) := by decide +kernel
theorem dX1_sit_87 : decode cX1_sit 87 = .ok (.dup, 1) := by decide +kernel
theorem dX1_sit_88 : decode cX1_sit 88 = .ok (.getfield 25, 3) := by decide +kernel
theorem dX1_sit_91 : decode cX1_sit 91 = .ok (.iconst 1, 1) := by decide +kernel
theorem dX1_sit_92 : decode cX1_sit 92 = .ok (.iload 4, 2) := by decide +kernel
theorem dX1_sit_94 : decode cX1_sit 94 = .ok (.ishl, 1) := by decide +kernel
theorem dX1_sit_95 : decode cX1_sit 95 = .ok (.ior, 1) := by decide +kernel
theorem dX1_sit_96 : decode cX1_sit 96 = .ok (.putfield 25, 3) := by decide +kernel
theorem dX1_sit_99 : decode cX1_sit 99 = .ok (.iinc 4 1, 3) := by decide +kernel
theorem dX1_sit_102 : decode cX1_sit 102 = .ok (.goto (-62), 3) := by decide +kernel
theorem dX1_sit_105 : decode cX1_sit 105 = .ok (.return_, 1) := by decide +kernel
theorem dX1_putPerson_0 : decode cX1_putPerson 0 = .ok (.aload_n 0, 1) := by decide +kernel
theorem dX1_putPerson_1 : decode cX1_putPerson 1 = .ok (.getfield 34, 3) := by decide +kernel
theorem dX1_putPerson_4 : decode cX1_putPerson 4 = .ok (.iconst (-1), 1) := by decide +kernel
theorem dX1_putPerson_5 : decode cX1_putPerson 5 = .ok (.aload_n 0, 1) := by decide +kernel
theorem dX1_putPerson_6 : decode cX1_putPerson 6 = .ok (.getfield 42, 3) := by decide +kernel
theorem dX1_putPerson_9 : decode cX1_putPerson 9 = .ok (.getfield 72, 3) := by decide +kernel
theorem dX1_putPerson_12 : decode cX1_putPerson 12 = .ok (.invokevirtual 77, 3) := by decide +kernel
theorem dX1_putPerson_15 : decode cX1_putPerson 15 = .ok (.aload_n 0, 1) := by decide +kernel
theorem dX1_putPerson_16 : decode cX1_putPerson 16 = .ok (.getfield 34, 3) := by decide +kernel
theorem dX1_putPerson_19 : decode cX1_putPerson 19 = .ok (.bipush (-2), 2) := by decide +kernel
theorem dX1_putPerson_21 : decode cX1_putPerson 21 = .ok (.aload_n 0, 1) := by decide +kernel
theorem dX1_putPerson_22 : decode cX1_putPerson 22 = .ok (.getfield 42, 3) := by decide +kernel
theorem dX1_putPerson_25 : decode cX1_putPerson 25 = .ok (.getfield 81, 3) := by decide +kernel
theorem dX1_putPerson_28 : decode cX1_putPerson 28 = .ok (.iload_n 1, 1) := by decide +kernel
theorem dX1_putPerson_29 : decode cX1_putPerson 29 = .ok (.iaload, 1) := by decide +kernel
theorem dX1_putPerson_30 : decode cX1_putPerson 30 = .ok (.invokevirtual 77, 3) := by decide +kernel
theorem dX1_putPerson_33 : decode cX1_putPerson 33 = .ok (.aload_n 0, 1) := by decide +kernel
theorem dX1_putPerson_34 : decode cX1_putPerson 34 = .ok (.getfield 34, 3) := by decide +kernel
theorem dX1_putPerson_37 : decode cX1_putPerson 37 = .ok (.bipush (-3), 2) := by decide +kernel
theorem dX1_putPerson_39 : decode cX1_putPerson 39 = .ok (.aload_n 0, 1) := by decide +kernel
theorem dX1_putPerson_40 : decode cX1_putPerson 40 = .ok (.getfield 38, 3) := by decide +kernel
theorem dX1_putPerson_43 : decode cX1_putPerson 43 = .ok (.iload_n 1, 1) := by decide +kernel
theorem dX1_putPerson_44 : decode cX1_putPerson 44 = .ok (.invokevirtual 84, 3) := by decide +kernel
theorem dX1_putPerson_47 : decode cX1_putPerson 47 = .ok (.invokevirtual 77, 3) := by decide +kernel
theorem dX1_putPerson_50 : decode cX1_putPerson 50 = .ok (.return_, 1) := by decide +kernel
theorem dX1_isCounting_0 : decode cX1_isCounting 0 = .ok (.aload_n 0, 1) := by decide +kernel
theorem dX1_isCounting_1 : decode cX1_isCounting 1 = .ok (.getfield 25, 3) := by decide +kernel
theorem dX1_isCounting_4 : decode cX1_isCounting 4 = .ok (.iload_n 1, 1) := by decide +kernel
theorem dX1_isCounting_5 : decode cX1_isCounting 5 = .ok (.ishr, 1) := by decide +kernel
theorem dX1_isCounting_6 : decode cX1_isCounting 6 = .ok (.iconst 1, 1) := by decide +kernel
theorem dX1_isCounting_7 : decode cX1_isCounting 7 = .ok (.iand, 1) := by decide +kernel
theorem dX1_isCounting_8 : decode cX1_isCounting 8 = .ok (.iconst 1, 1) := by decide +kernel
theorem dX1_isCounting_9 : decode cX1_isCounting 9 = .ok (.if_icmp .ne 7, 3) := by decide +kernel
theorem dX1_isCounting_12 : decode cX1_isCounting 12 = .ok (.iconst 1, 1) := by decide +kernel
theorem dX1_isCounting_13 : decode cX1_isCounting 13 = .ok (.goto 4, 3) := by decide +kernel
theorem dX1_isCounting_16 : decode cX1_isCounting 16 = .ok (.iconst 0, 1) := by decide +kernel
theorem dX1_isCounting_17 : decode cX1_isCounting 17 = .ok (.ireturn, 1) := by decide +kernel
theorem dX1_scoreOf_0 : decode cX1_scoreOf 0 = .ok (.iload_n 1, 1) := by decide +kernel
theorem dX1_scoreOf_1 : decode cX1_scoreOf 1 = .ok (.aload_n 0, 1) := by decide +kernel
theorem dX1_scoreOf_2 : decode cX1_scoreOf 2 = .ok (.getfield 28, 3) := by decide +kernel
theorem dX1_scoreOf_5 : decode cX1_scoreOf 5 = .ok (.if_icmp .ne 10, 3) := by decide +kernel
theorem dX1_scoreOf_8 : decode cX1_scoreOf 8 = .ok (.aload_n 0, 1) := by decide +kernel
theorem dX1_scoreOf_9 : decode cX1_scoreOf 9 = .ok (.getfield 31, 3) := by decide +kernel
theorem dX1_scoreOf_12 : decode cX1_scoreOf 12 = .ok (.goto 13, 3) := by decide +kernel
theorem dX1_scoreOf_15 : decode cX1_scoreOf 15 = .ok (.aload_n 0, 1) := by decide +kernel
theorem dX1_scoreOf_16 : decode cX1_scoreOf 16 = .ok (.getfield 38, 3) := by decide +kernel
theorem dX1_scoreOf_19 : decode cX1_scoreOf 19 = .ok (.iconst 0, 1) := by decide +kernel
theorem dX1_scoreOf_20 : decode cX1_scoreOf 20 = .ok (.iload_n 1, 1) := by decide +kernel
theorem dX1_scoreOf_21 : decode cX1_scoreOf 21 = .ok (.iconst 0, 1) := by decide +kernel
theorem dX1_scoreOf_22 : decode cX1_scoreOf 22 = .ok (.invokevirtual 88, 3) := by decide +kernel
theorem dX1_scoreOf_25 : decode cX1_scoreOf 25 = .ok (.istore 4, 2) := by decide +kernel
theorem dX1_scoreOf_27 : decode cX1_scoreOf 27 = .ok (.iload_n 1, 1) := by decide +kernel
theorem dX1_scoreOf_28 : decode cX1_scoreOf 28 = .ok (.bipush 6, 2) := by decide +kernel
theorem dX1_scoreOf_30 : decode cX1_scoreOf 30 = .ok (.imul, 1) := by decide +kernel
theorem dX1_scoreOf_31 : decode cX1_scoreOf 31 = .ok (.iload_n 2, 1) := by decide +kernel
theorem dX1_scoreOf_32 : decode cX1_scoreOf 32 = .ok (.iadd, 1) := by decide +kernel
theorem dX1_scoreOf_33 : decode cX1_scoreOf 33 = .ok (.bipush 6, 2) := by decide +kernel
theorem dX1_scoreOf_35 : decode cX1_scoreOf 35 = .ok (.imul, 1) := by decide +kernel
theorem dX1_scoreOf_36 : decode cX1_scoreOf 36 = .ok (.iload_n 3, 1) := by decide +kernel
theorem dX1_scoreOf_37 : decode cX1_scoreOf 37 = .ok (.iadd, 1) := by decide +kernel
theorem dX1_scoreOf_38 : decode cX1_scoreOf 38 = .ok (.istore 5, 2) := by decide +kernel
theorem dX1_scoreOf_40 : decode cX1_scoreOf 40 = .ok (.iload_n 3, 1) := by decide +kernel
theorem dX1_scoreOf_41 : decode cX1_scoreOf 41 = .ok (.ifCond .lt 24, 3) := by decide +kernel
theorem dX1_scoreOf_44 : decode cX1_scoreOf 44 = .ok (.iload_n 3, 1) := by decide +kernel
theorem dX1_scoreOf_45 : decode cX1_scoreOf 45 = .ok (.bipush 6, 2) := by decide +kernel
theorem dX1_scoreOf_47 : decode cX1_scoreOf 47 = .ok (.if_icmp .ge 18, 3) := by decide +kernel
theorem dX1_scoreOf_50 : decode cX1_scoreOf 50 = .ok (.iload 5, 2) := by decide +kernel
theorem dX1_scoreOf_52 : decode cX1_scoreOf 52 = .ok (.ifCond .lt 13, 3) := by decide +kernel
theorem dX1_scoreOf_55 : decode cX1_scoreOf 55 = .ok (.iload 5, 2) := by decide +kernel
theorem dX1_scoreOf_57 : decode cX1_scoreOf 57 = .ok (.aload_n 0, 1) := by decide +kernel
theorem dX1_scoreOf_58 : decode cX1_scoreOf 58 = .ok (.getfield 9, 3) := by decide +kernel
theorem dX1_scoreOf_61 : decode cX1_scoreOf 61 = .ok (.arraylength, 1) := by decide +kernel
theorem dX1_scoreOf_62 : decode cX1_scoreOf 62 = .ok (.if_icmp .lt 5, 3) := by decide +kernel
theorem dX1_scoreOf_65 : decode cX1_scoreOf 65 = .ok (.iconst 0, 1) := by decide +kernel
theorem dX1_scoreOf_66 : decode cX1_scoreOf 66 = .ok (.ireturn, 1) := by decide +kernel
theorem dX1_scoreOf_67 : decode cX1_scoreOf 67 = .ok (.aload_n 0, 1) := by decide +kernel
theorem dX1_scoreOf_68 : decode cX1_scoreOf 68 = .ok (.getfield 9, 3) := by decide +kernel
theorem dX1_scoreOf_71 : decode cX1_scoreOf 71 = .ok (.iload 5, 2) := by decide +kernel
theorem dX1_scoreOf_73 : decode cX1_scoreOf 73 = .ok (.iaload, 1) := by decide +kernel
theorem dX1_scoreOf_74 : decode cX1_scoreOf 74 = .ok (.ldc 46, 2) := by decide +kernel
theorem dX1_scoreOf_76 : decode cX1_scoreOf 76 = .ok (.if_icmp .ne 131, 3) := by decide +kernel
theorem dX1_scoreOf_79 : decode cX1_scoreOf 79 = .ok (.aload_n 0, 1) := by decide +kernel
theorem dX1_scoreOf_80 : decode cX1_scoreOf 80 = .ok (.getfield 9, 3) := by decide +kernel
theorem dX1_scoreOf_83 : decode cX1_scoreOf 83 = .ok (.iload 5, 2) := by decide +kernel
theorem dX1_scoreOf_85 : decode cX1_scoreOf 85 = .ok (.aload_n 0, 1) := by decide +kernel
theorem dX1_scoreOf_86 : decode cX1_scoreOf 86 = .ok (.getfield 38, 3) := by decide +kernel
theorem dX1_scoreOf_89 : decode cX1_scoreOf 89 = .ok (.iload_n 1, 1) := by decide +kernel
theorem dX1_scoreOf_90 : decode cX1_scoreOf 90 = .ok (.iload 4, 2) := by decide +kernel
theorem dX1_scoreOf_92 : decode cX1_scoreOf 92 = .ok (.aload_n 0, 1) := by decide +kernel
theorem dX1_scoreOf_93 : decode cX1_scoreOf 93 = .ok (.getfield 21, 3) := by decide +kernel
theorem dX1_scoreOf_96 : decode cX1_scoreOf 96 = .ok (.iload_n 2, 1) := by decide +kernel
theorem dX1_scoreOf_97 : decode cX1_scoreOf 97 = .ok (.invokevirtual 92, 3) := by decide +kernel
theorem dX1_scoreOf_100 : decode cX1_scoreOf 100 = .ok (.iastore, 1) := by decide +kernel
theorem dX1_scoreOf_101 : decode cX1_scoreOf 101 = .ok (.aload_n 0, 1) := by decide +kernel
theorem dX1_scoreOf_102 : decode cX1_scoreOf 102 = .ok (.getfield 38, 3) := by decide +kernel
theorem dX1_scoreOf_105 : decode cX1_scoreOf 105 = .ok (.iconst 0, 1) := by decide +kernel
theorem dX1_scoreOf_106 : decode cX1_scoreOf 106 = .ok (.invokevirtual 62, 3) := by decide +kernel
theorem dX1_scoreOf_109 : decode cX1_scoreOf 109 = .ok (.ifCond .eq 98, 3) := by decide +kernel
theorem dX1_scoreOf_112 : decode cX1_scoreOf 112 = .ok (.aload_n 0, 1) := by decide +kernel
theorem dX1_scoreOf_113 : decode cX1_scoreOf 113 = .ok (.iload_n 1, 1) := by decide +kernel
theorem dX1_scoreOf_114 : decode cX1_scoreOf 114 = .ok (.invokevirtual 58, 3) := by decide +kernel
theorem dX1_scoreOf_117 : decode cX1_scoreOf 117 = .ok (.aload_n 0, 1) := by decide +kernel
theorem dX1_scoreOf_118 : decode cX1_scoreOf 118 = .ok (.getfield 34, 3) := by decide +kernel
theorem dX1_scoreOf_121 : decode cX1_scoreOf 121 = .ok (.bipush (-4), 2) := by decide +kernel
theorem dX1_scoreOf_123 : decode cX1_scoreOf 123 = .ok (.aload_n 0, 1) := by decide +kernel
theorem dX1_scoreOf_124 : decode cX1_scoreOf 124 = .ok (.getfield 9, 3) := by decide +kernel
theorem dX1_scoreOf_127 : decode cX1_scoreOf 127 = .ok (.iload 5, 2) := by decide +kernel
theorem dX1_scoreOf_129 : decode cX1_scoreOf 129 = .ok (.iaload, 1) := by decide +kernel
theorem dX1_scoreOf_130 : decode cX1_scoreOf 130 = .ok (.invokevirtual 77, 3) := by decide +kernel
theorem dX1_scoreOf_133 : decode cX1_scoreOf 133 = .ok (.aload_n 0, 1) := by decide +kernel
theorem dX1_scoreOf_134 : decode cX1_scoreOf 134 = .ok (.getfield 34, 3) := by decide +kernel
theorem dX1_scoreOf_137 : decode cX1_scoreOf 137 = .ok (.bipush (-5), 2) := by decide +kernel
theorem dX1_scoreOf_139 : decode cX1_scoreOf 139 = .ok (.aload_n 0, 1) := by decide +kernel
theorem dX1_scoreOf_140 : decode cX1_scoreOf 140 = .ok (.getfield 42, 3) := by decide +kernel
theorem dX1_scoreOf_143 : decode cX1_scoreOf 143 = .ok (.aload_n 0, 1) := by decide +kernel
theorem dX1_scoreOf_144 : decode cX1_scoreOf 144 = .ok (.getfield 38, 3) := by decide +kernel
theorem dX1_scoreOf_147 : decode cX1_scoreOf 147 = .ok (.getfield 53, 3) := by decide +kernel
theorem dX1_scoreOf_150 : decode cX1_scoreOf 150 = .ok (.iconst 2, 1) := by decide +kernel
theorem dX1_scoreOf_151 : decode cX1_scoreOf 151 = .ok (.iaload, 1) := by decide +kernel
theorem dX1_scoreOf_152 : decode cX1_scoreOf 152 = .ok (.iload_n 2, 1) := by decide +kernel
theorem dX1_scoreOf_153 : decode cX1_scoreOf 153 = .ok (.invokevirtual 96, 3) := by decide +kernel
theorem dX1_scoreOf_156 : decode cX1_scoreOf 156 = .ok (.invokevirtual 77, 3) := by decide +kernel
theorem dX1_scoreOf_159 : decode cX1_scoreOf 159 = .ok (.aload_n 0, 1) := by decide +kernel
theorem dX1_scoreOf_160 : decode cX1_scoreOf 160 = .ok (.getfield 34, 3) := by decide +kernel
theorem dX1_scoreOf_163 : decode cX1_scoreOf 163 = .ok (.bipush (-6), 2) := by decide +kernel
theorem dX1_scoreOf_165 : decode cX1_scoreOf 165 = .ok (.iload_n 3, 1) := by decide +kernel
theorem dX1_scoreOf_166 : decode cX1_scoreOf 166 = .ok (.invokevirtual 77, 3) := by decide +kernel
theorem dX1_scoreOf_169 : decode cX1_scoreOf 169 = .ok (.aload_n 0, 1) := by decide +kernel
theorem dX1_scoreOf_170 : decode cX1_scoreOf 170 = .ok (.getfield 34, 3) := by decide +kernel
theorem dX1_scoreOf_173 : decode cX1_scoreOf 173 = .ok (.bipush (-7), 2) := by decide +kernel
theorem dX1_scoreOf_175 : decode cX1_scoreOf 175 = .ok (.aload_n 0, 1) := by decide +kernel
theorem dX1_scoreOf_176 : decode cX1_scoreOf 176 = .ok (.getfield 38, 3) := by decide +kernel
theorem dX1_scoreOf_179 : decode cX1_scoreOf 179 = .ok (.iconst 1, 1) := by decide +kernel
theorem dX1_scoreOf_180 : decode cX1_scoreOf 180 = .ok (.iload_n 2, 1) := by decide +kernel
theorem dX1_scoreOf_181 : decode cX1_scoreOf 181 = .ok (.iconst 3, 1) := by decide +kernel
theorem dX1_scoreOf_182 : decode cX1_scoreOf 182 = .ok (.invokevirtual 88, 3) := by decide +kernel
theorem dX1_scoreOf_185 : decode cX1_scoreOf 185 = .ok (.invokevirtual 77, 3) := by decide +kernel
theorem dX1_scoreOf_188 : decode cX1_scoreOf 188 = .ok (.aload_n 0, 1) := by decide +kernel
theorem dX1_scoreOf_189 : decode cX1_scoreOf 189 = .ok (.getfield 9, 3) := by decide +kernel
theorem dX1_scoreOf_192 : decode cX1_scoreOf 192 = .ok (.iload 5, 2) := by decide +kernel
theorem dX1_scoreOf_194 : decode cX1_scoreOf 194 = .ok (.aload_n 0, 1) := by decide +kernel
theorem dX1_scoreOf_195 : decode cX1_scoreOf 195 = .ok (.getfield 34, 3) := by decide +kernel
theorem dX1_scoreOf_198 : decode cX1_scoreOf 198 = .ok (.aload_n 0, 1) := by decide +kernel
theorem dX1_scoreOf_199 : decode cX1_scoreOf 199 = .ok (.getfield 38, 3) := by decide +kernel
theorem dX1_scoreOf_202 : decode cX1_scoreOf 202 = .ok (.iconst 0, 1) := by decide +kernel
theorem dX1_scoreOf_203 : decode cX1_scoreOf 203 = .ok (.invokevirtual 66, 3) := by decide +kernel
theorem dX1_scoreOf_206 : decode cX1_scoreOf 206 = .ok (.iastore, 1) := by decide +kernel
theorem dX1_scoreOf_207 : decode cX1_scoreOf 207 = .ok (.aload_n 0, 1) := by decide +kernel
theorem dX1_scoreOf_208 : decode cX1_scoreOf 208 = .ok (.getfield 9, 3) := by decide +kernel
theorem dX1_scoreOf_211 : decode cX1_scoreOf 211 = .ok (.iload 5, 2) := by decide +kernel
theorem dX1_scoreOf_213 : decode cX1_scoreOf 213 = .ok (.iaload, 1) := by decide +kernel
theorem dX1_scoreOf_214 : decode cX1_scoreOf 214 = .ok (.ireturn, 1) := by decide +kernel
theorem dX1_wordOf_0 : decode cX1_wordOf 0 = .ok (.iconst (-1), 1) := by decide +kernel
theorem dX1_wordOf_1 : decode cX1_wordOf 1 = .ok (.istore_n 2, 1) := by decide +kernel
theorem dX1_wordOf_2 : decode cX1_wordOf 2 = .ok (.iconst 0, 1) := by decide +kernel
theorem dX1_wordOf_3 : decode cX1_wordOf 3 = .ok (.istore_n 3, 1) := by decide +kernel
theorem dX1_wordOf_4 : decode cX1_wordOf 4 = .ok (.iconst 0, 1) := by decide +kernel
theorem dX1_wordOf_5 : decode cX1_wordOf 5 = .ok (.istore 4, 2) := by decide +kernel
theorem dX1_wordOf_7 : decode cX1_wordOf 7 = .ok (.iload 4, 2) := by decide +kernel
theorem dX1_wordOf_9 : decode cX1_wordOf 9 = .ok (.aload_n 0, 1) := by decide +kernel
theorem dX1_wordOf_10 : decode cX1_wordOf 10 = .ok (.getfield 38, 3) := by decide +kernel
theorem dX1_wordOf_13 : decode cX1_wordOf 13 = .ok (.getfield 53, 3) := by decide +kernel
theorem dX1_wordOf_16 : decode cX1_wordOf 16 = .ok (.iconst 1, 1) := by decide +kernel
theorem dX1_wordOf_17 : decode cX1_wordOf 17 = .ok (.iaload, 1) := by decide +kernel
theorem dX1_wordOf_18 : decode cX1_wordOf 18 = .ok (.if_icmp .ge 42, 3) := by decide +kernel
theorem dX1_wordOf_21 : decode cX1_wordOf 21 = .ok (.aload_n 0, 1) := by decide +kernel
theorem dX1_wordOf_22 : decode cX1_wordOf 22 = .ok (.iload_n 1, 1) := by decide +kernel
theorem dX1_wordOf_23 : decode cX1_wordOf 23 = .ok (.iload 4, 2) := by decide +kernel
theorem dX1_wordOf_25 : decode cX1_wordOf 25 = .ok (.aload_n 0, 1) := by decide +kernel
theorem dX1_wordOf_26 : decode cX1_wordOf 26 = .ok (.getfield 15, 3) := by decide +kernel
theorem dX1_wordOf_29 : decode cX1_wordOf 29 = .ok (.iload 4, 2) := by decide +kernel
theorem dX1_wordOf_31 : decode cX1_wordOf 31 = .ok (.iaload, 1) := by decide +kernel
theorem dX1_wordOf_32 : decode cX1_wordOf 32 = .ok (.invokevirtual 100, 3) := by decide +kernel
theorem dX1_wordOf_35 : decode cX1_wordOf 35 = .ok (.istore 5, 2) := by decide +kernel
theorem dX1_wordOf_37 : decode cX1_wordOf 37 = .ok (.iload_n 2, 1) := by decide +kernel
theorem dX1_wordOf_38 : decode cX1_wordOf 38 = .ok (.iconst (-1), 1) := by decide +kernel
theorem dX1_wordOf_39 : decode cX1_wordOf 39 = .ok (.if_icmp .eq 9, 3) := by decide +kernel
theorem dX1_wordOf_42 : decode cX1_wordOf 42 = .ok (.iload 5, 2) := by decide +kernel
theorem dX1_wordOf_44 : decode cX1_wordOf 44 = .ok (.iload_n 3, 1) := by decide +kernel
theorem dX1_wordOf_45 : decode cX1_wordOf 45 = .ok (.if_icmp .le 9, 3) := by decide +kernel
theorem dX1_wordOf_48 : decode cX1_wordOf 48 = .ok (.iload 4, 2) := by decide +kernel
theorem dX1_wordOf_50 : decode cX1_wordOf 50 = .ok (.istore_n 2, 1) := by decide +kernel
theorem dX1_wordOf_51 : decode cX1_wordOf 51 = .ok (.iload 5, 2) := by decide +kernel
theorem dX1_wordOf_53 : decode cX1_wordOf 53 = .ok (.istore_n 3, 1) := by decide +kernel
theorem dX1_wordOf_54 : decode cX1_wordOf 54 = .ok (.iinc 4 1, 3) := by decide +kernel
theorem dX1_wordOf_57 : decode cX1_wordOf 57 = .ok (.goto (-50), 3) := by decide +kernel
theorem dX1_wordOf_60 : decode cX1_wordOf 60 = .ok (.iload_n 2, 1) := by decide +kernel
theorem dX1_wordOf_61 : decode cX1_wordOf 61 = .ok (.ireturn, 1) := by decide +kernel
theorem dX1_ask_0 : decode cX1_ask 0 = .ok (.aload_n 0, 1) := by decide +kernel
theorem dX1_ask_1 : decode cX1_ask 1 = .ok (.getfield 15, 3) := by decide +kernel
theorem dX1_ask_4 : decode cX1_ask 4 = .ok (.iconst 0, 1) := by decide +kernel
theorem dX1_ask_5 : decode cX1_ask 5 = .ok (.invokestatic 47, 3) := by decide +kernel
theorem dX1_ask_8 : decode cX1_ask 8 = .ok (.aload_n 0, 1) := by decide +kernel
theorem dX1_ask_9 : decode cX1_ask 9 = .ok (.getfield 18, 3) := by decide +kernel
theorem dX1_ask_12 : decode cX1_ask 12 = .ok (.iconst (-1), 1) := by decide +kernel
theorem dX1_ask_13 : decode cX1_ask 13 = .ok (.invokestatic 47, 3) := by decide +kernel
theorem dX1_ask_16 : decode cX1_ask 16 = .ok (.iconst 0, 1) := by decide +kernel
theorem dX1_ask_17 : decode cX1_ask 17 = .ok (.istore_n 3, 1) := by decide +kernel
theorem dX1_ask_18 : decode cX1_ask 18 = .ok (.iload_n 3, 1) := by decide +kernel
theorem dX1_ask_19 : decode cX1_ask 19 = .ok (.aload_n 0, 1) := by decide +kernel
theorem dX1_ask_20 : decode cX1_ask 20 = .ok (.getfield 38, 3) := by decide +kernel
theorem dX1_ask_23 : decode cX1_ask 23 = .ok (.getfield 53, 3) := by decide +kernel
theorem dX1_ask_26 : decode cX1_ask 26 = .ok (.iconst 0, 1) := by decide +kernel
theorem dX1_ask_27 : decode cX1_ask 27 = .ok (.iaload, 1) := by decide +kernel
theorem dX1_ask_28 : decode cX1_ask 28 = .ok (.if_icmp .ge 90, 3) := by decide +kernel
theorem dX1_ask_31 : decode cX1_ask 31 = .ok (.iload_n 3, 1) := by decide +kernel
theorem dX1_ask_32 : decode cX1_ask 32 = .ok (.aload_n 1, 1) := by decide +kernel
theorem dX1_ask_33 : decode cX1_ask 33 = .ok (.arraylength, 1) := by decide +kernel
theorem dX1_ask_34 : decode cX1_ask 34 = .ok (.if_icmp .ge 84, 3) := by decide +kernel
theorem dX1_ask_37 : decode cX1_ask 37 = .ok (.aload_n 1, 1) := by decide +kernel
theorem dX1_ask_38 : decode cX1_ask 38 = .ok (.iload_n 3, 1) := by decide +kernel
theorem dX1_ask_39 : decode cX1_ask 39 = .ok (.iaload, 1) := by decide +kernel
theorem dX1_ask_40 : decode cX1_ask 40 = .ok (.istore 4, 2) := by decide +kernel
theorem dX1_ask_42 : decode cX1_ask 42 = .ok (.iload 4, 2) := by decide +kernel
theorem dX1_ask_44 : decode cX1_ask 44 = .ok (.ifCond .lt 68, 3) := by decide +kernel
theorem dX1_ask_47 : decode cX1_ask 47 = .ok (.iload 4, 2) := by decide +kernel
theorem dX1_ask_49 : decode cX1_ask 49 = .ok (.aload_n 0, 1) := by decide +kernel
theorem dX1_ask_50 : decode cX1_ask 50 = .ok (.getfield 18, 3) := by decide +kernel
theorem dX1_ask_53 : decode cX1_ask 53 = .ok (.arraylength, 1) := by decide +kernel
theorem dX1_ask_54 : decode cX1_ask 54 = .ok (.if_icmp .ge 58, 3) := by decide +kernel
theorem dX1_ask_57 : decode cX1_ask 57 = .ok (.iload_n 2, 1) := by decide +kernel
theorem dX1_ask_58 : decode cX1_ask 58 = .ok (.iload 4, 2) := by decide +kernel
theorem dX1_ask_60 : decode cX1_ask 60 = .ok (.ishr, 1) := by decide +kernel
theorem dX1_ask_61 : decode cX1_ask 61 = .ok (.iconst 1, 1) := by decide +kernel
theorem dX1_ask_62 : decode cX1_ask 62 = .ok (.iand, 1) := by decide +kernel
theorem dX1_ask_63 : decode cX1_ask 63 = .ok (.ifCond .ne 6, 3) := by decide +kernel
theorem dX1_ask_66 : decode cX1_ask 66 = .ok (.goto 46, 3) := by decide +kernel
theorem dX1_ask_69 : decode cX1_ask 69 = .ok (.aload_n 0, 1) := by decide +kernel
theorem dX1_ask_70 : decode cX1_ask 70 = .ok (.iload 4, 2) := by decide +kernel
theorem dX1_ask_72 : decode cX1_ask 72 = .ok (.invokevirtual 103, 3) := by decide +kernel
theorem dX1_ask_75 : decode cX1_ask 75 = .ok (.istore 5, 2) := by decide +kernel
theorem dX1_ask_77 : decode cX1_ask 77 = .ok (.aload_n 0, 1) := by decide +kernel
theorem dX1_ask_78 : decode cX1_ask 78 = .ok (.getfield 18, 3) := by decide +kernel
theorem dX1_ask_81 : decode cX1_ask 81 = .ok (.iload 4, 2) := by decide +kernel
theorem dX1_ask_83 : decode cX1_ask 83 = .ok (.iload 5, 2) := by decide +kernel
theorem dX1_ask_85 : decode cX1_ask 85 = .ok (.iastore, 1) := by decide +kernel
theorem dX1_ask_86 : decode cX1_ask 86 = .ok (.iload 5, 2) := by decide +kernel
theorem dX1_ask_88 : decode cX1_ask 88 = .ok (.iconst (-1), 1) := by decide +kernel
theorem dX1_ask_89 : decode cX1_ask 89 = .ok (.if_icmp .eq 23, 3) := by decide +kernel
theorem dX1_ask_92 : decode cX1_ask 92 = .ok (.aload_n 0, 1) := by decide +kernel
theorem dX1_ask_93 : decode cX1_ask 93 = .ok (.iload 4, 2) := by decide +kernel
theorem dX1_ask_95 : decode cX1_ask 95 = .ok (.invokevirtual 106, 3) := by decide +kernel
theorem dX1_ask_98 : decode cX1_ask 98 = .ok (.ifCond .eq 14, 3) := by decide +kernel
theorem dX1_ask_101 : decode cX1_ask 101 = .ok (.aload_n 0, 1) := by decide +kernel
theorem dX1_ask_102 : decode cX1_ask 102 = .ok (.getfield 15, 3) := by decide +kernel
theorem dX1_ask_105 : decode cX1_ask 105 = .ok (.iload 5, 2) := by decide +kernel
theorem dX1_ask_107 : decode cX1_ask 107 = .ok (.dup2, 1) := by decide +kernel
theorem dX1_ask_108 : decode cX1_ask 108 = .ok (.iaload, 1) := by decide +kernel
theorem dX1_ask_109 : decode cX1_ask 109 = .ok (.iconst 1, 1) := by decide +kernel
theorem dX1_ask_110 : decode cX1_ask 110 = .ok (.iadd, 1) := by decide +kernel
theorem dX1_ask_111 : decode cX1_ask 111 = .ok (.iastore, 1) := by decide +kernel
theorem dX1_ask_112 : decode cX1_ask 112 = .ok (.iinc 3 1, 3) := by decide +kernel
theorem dX1_ask_115 : decode cX1_ask 115 = .ok (.goto (-97), 3) := by decide +kernel
theorem dX1_ask_118 : decode cX1_ask 118 = .ok (.iconst (-1), 1) := by decide +kernel
theorem dX1_ask_119 : decode cX1_ask 119 = .ok (.istore_n 3, 1) := by decide +kernel
theorem dX1_ask_120 : decode cX1_ask 120 = .ok (.iconst 0, 1) := by decide +kernel
theorem dX1_ask_121 : decode cX1_ask 121 = .ok (.istore 4, 2) := by decide +kernel
theorem dX1_ask_123 : decode cX1_ask 123 = .ok (.iload 4, 2) := by decide +kernel
theorem dX1_ask_125 : decode cX1_ask 125 = .ok (.aload_n 0, 1) := by decide +kernel
theorem dX1_ask_126 : decode cX1_ask 126 = .ok (.getfield 38, 3) := by decide +kernel
theorem dX1_ask_129 : decode cX1_ask 129 = .ok (.getfield 53, 3) := by decide +kernel
theorem dX1_ask_132 : decode cX1_ask 132 = .ok (.iconst 1, 1) := by decide +kernel
theorem dX1_ask_133 : decode cX1_ask 133 = .ok (.iaload, 1) := by decide +kernel
theorem dX1_ask_134 : decode cX1_ask 134 = .ok (.if_icmp .ge 37, 3) := by decide +kernel
theorem dX1_ask_137 : decode cX1_ask 137 = .ok (.aload_n 0, 1) := by decide +kernel
theorem dX1_ask_138 : decode cX1_ask 138 = .ok (.getfield 15, 3) := by decide +kernel
theorem dX1_ask_141 : decode cX1_ask 141 = .ok (.iload 4, 2) := by decide +kernel
theorem dX1_ask_143 : decode cX1_ask 143 = .ok (.iaload, 1) := by decide +kernel
theorem dX1_ask_144 : decode cX1_ask 144 = .ok (.iload_n 3, 1) := by decide +kernel
theorem dX1_ask_145 : decode cX1_ask 145 = .ok (.iconst (-1), 1) := by decide +kernel
theorem dX1_ask_146 : decode cX1_ask 146 = .ok (.if_icmp .ne 7, 3) := by decide +kernel
theorem dX1_ask_149 : decode cX1_ask 149 = .ok (.iconst 0, 1) := by decide +kernel
theorem dX1_ask_150 : decode cX1_ask 150 = .ok (.goto 9, 3) := by decide +kernel
theorem dX1_ask_153 : decode cX1_ask 153 = .ok (.aload_n 0, 1) := by decide +kernel
theorem dX1_ask_154 : decode cX1_ask 154 = .ok (.getfield 15, 3) := by decide +kernel
theorem dX1_ask_157 : decode cX1_ask 157 = .ok (.iload_n 3, 1) := by decide +kernel
theorem dX1_ask_158 : decode cX1_ask 158 = .ok (.iaload, 1) := by decide +kernel
theorem dX1_ask_159 : decode cX1_ask 159 = .ok (.if_icmp .le 6, 3) := by decide +kernel
theorem dX1_ask_162 : decode cX1_ask 162 = .ok (.iload 4, 2) := by decide +kernel
theorem dX1_ask_164 : decode cX1_ask 164 = .ok (.istore_n 3, 1) := by decide +kernel
theorem dX1_ask_165 : decode cX1_ask 165 = .ok (.iinc 4 1, 3) := by decide +kernel
theorem dX1_ask_168 : decode cX1_ask 168 = .ok (.goto (-45), 3) := by decide +kernel
theorem dX1_ask_171 : decode cX1_ask 171 = .ok (.iload_n 3, 1) := by decide +kernel
theorem dX1_ask_172 : decode cX1_ask 172 = .ok (.ireturn, 1) := by decide +kernel
theorem dX1_votesFor_0 : decode cX1_votesFor 0 = .ok (.iload_n 1, 1) := by decide +kernel
theorem dX1_votesFor_1 : decode cX1_votesFor 1 = .ok (.ifCond .lt 21, 3) := by decide +kernel
theorem dX1_votesFor_4 : decode cX1_votesFor 4 = .ok (.iload_n 1, 1) := by decide +kernel
theorem dX1_votesFor_5 : decode cX1_votesFor 5 = .ok (.aload_n 0, 1) := by decide +kernel
theorem dX1_votesFor_6 : decode cX1_votesFor 6 = .ok (.getfield 15, 3) := by decide +kernel
theorem dX1_votesFor_9 : decode cX1_votesFor 9 = .ok (.arraylength, 1) := by decide +kernel
theorem dX1_votesFor_10 : decode cX1_votesFor 10 = .ok (.if_icmp .ge 12, 3) := by decide +kernel
theorem dX1_votesFor_13 : decode cX1_votesFor 13 = .ok (.aload_n 0, 1) := by decide +kernel
theorem dX1_votesFor_14 : decode cX1_votesFor 14 = .ok (.getfield 15, 3) := by decide +kernel
theorem dX1_votesFor_17 : decode cX1_votesFor 17 = .ok (.iload_n 1, 1) := by decide +kernel
theorem dX1_votesFor_18 : decode cX1_votesFor 18 = .ok (.iaload, 1) := by decide +kernel
theorem dX1_votesFor_19 : decode cX1_votesFor 19 = .ok (.goto 4, 3) := by decide +kernel
theorem dX1_votesFor_22 : decode cX1_votesFor 22 = .ok (.iconst (-1), 1) := by decide +kernel
theorem dX1_votesFor_23 : decode cX1_votesFor 23 = .ok (.ireturn, 1) := by decide +kernel
theorem dX1_saidBy_0 : decode cX1_saidBy 0 = .ok (.iload_n 1, 1) := by decide +kernel
theorem dX1_saidBy_1 : decode cX1_saidBy 1 = .ok (.ifCond .lt 21, 3) := by decide +kernel
theorem dX1_saidBy_4 : decode cX1_saidBy 4 = .ok (.iload_n 1, 1) := by decide +kernel
theorem dX1_saidBy_5 : decode cX1_saidBy 5 = .ok (.aload_n 0, 1) := by decide +kernel
theorem dX1_saidBy_6 : decode cX1_saidBy 6 = .ok (.getfield 18, 3) := by decide +kernel
theorem dX1_saidBy_9 : decode cX1_saidBy 9 = .ok (.arraylength, 1) := by decide +kernel
theorem dX1_saidBy_10 : decode cX1_saidBy 10 = .ok (.if_icmp .ge 12, 3) := by decide +kernel
theorem dX1_saidBy_13 : decode cX1_saidBy 13 = .ok (.aload_n 0, 1) := by decide +kernel
theorem dX1_saidBy_14 : decode cX1_saidBy 14 = .ok (.getfield 18, 3) := by decide +kernel
theorem dX1_saidBy_17 : decode cX1_saidBy 17 = .ok (.iload_n 1, 1) := by decide +kernel
theorem dX1_saidBy_18 : decode cX1_saidBy 18 = .ok (.iaload, 1) := by decide +kernel
theorem dX1_saidBy_19 : decode cX1_saidBy 19 = .ok (.goto 4, 3) := by decide +kernel
theorem dX1_saidBy_22 : decode cX1_saidBy 22 = .ok (.iconst (-1), 1) := by decide +kernel
theorem dX1_saidBy_23 : decode cX1_saidBy 23 = .ok (.ireturn, 1) := by decide +kernel
theorem dX1_firstOrder_0 : decode cX1_firstOrder 0 = .ok (.aload_n 0, 1) := by decide +kernel
theorem dX1_firstOrder_1 : decode cX1_firstOrder 1 = .ok (.aload_n 1, 1) := by decide +kernel
theorem dX1_firstOrder_2 : decode cX1_firstOrder 2 = .ok (.invokevirtual 109, 3) := by decide +kernel
theorem dX1_firstOrder_5 : decode cX1_firstOrder 5 = .ok (.istore_n 3, 1) := by decide +kernel
theorem dX1_firstOrder_6 : decode cX1_firstOrder 6 = .ok (.iconst 0, 1) := by decide +kernel
theorem dX1_firstOrder_7 : decode cX1_firstOrder 7 = .ok (.istore 4, 2) := by decide +kernel
theorem dX1_firstOrder_9 : decode cX1_firstOrder 9 = .ok (.iload 4, 2) := by decide +kernel
theorem dX1_firstOrder_11 : decode cX1_firstOrder 11 = .ok (.iload_n 3, 1) := by decide +kernel
theorem dX1_firstOrder_12 : decode cX1_firstOrder 12 = .ok (.if_icmp .ge 32, 3) := by decide +kernel
theorem dX1_firstOrder_15 : decode cX1_firstOrder 15 = .ok (.aload_n 0, 1) := by decide +kernel
theorem dX1_firstOrder_16 : decode cX1_firstOrder 16 = .ok (.aload_n 1, 1) := by decide +kernel
theorem dX1_firstOrder_17 : decode cX1_firstOrder 17 = .ok (.aload_n 0, 1) := by decide +kernel
theorem dX1_firstOrder_18 : decode cX1_firstOrder 18 = .ok (.getfield 38, 3) := by decide +kernel
theorem dX1_firstOrder_21 : decode cX1_firstOrder 21 = .ok (.invokevirtual 113, 3) := by decide +kernel
theorem dX1_firstOrder_24 : decode cX1_firstOrder 24 = .ok (.invokevirtual 117, 3) := by decide +kernel
theorem dX1_firstOrder_27 : decode cX1_firstOrder 27 = .ok (.iload_n 2, 1) := by decide +kernel
theorem dX1_firstOrder_28 : decode cX1_firstOrder 28 = .ok (.if_icmp .ne 5, 3) := by decide +kernel
theorem dX1_firstOrder_31 : decode cX1_firstOrder 31 = .ok (.iconst 1, 1) := by decide +kernel
theorem dX1_firstOrder_32 : decode cX1_firstOrder 32 = .ok (.ireturn, 1) := by decide +kernel
theorem dX1_firstOrder_33 : decode cX1_firstOrder 33 = .ok (.aload_n 0, 1) := by decide +kernel
theorem dX1_firstOrder_34 : decode cX1_firstOrder 34 = .ok (.aload_n 1, 1) := by decide +kernel
theorem dX1_firstOrder_35 : decode cX1_firstOrder 35 = .ok (.invokevirtual 121, 3) := by decide +kernel
theorem dX1_firstOrder_38 : decode cX1_firstOrder 38 = .ok (.iinc 4 1, 3) := by decide +kernel
theorem dX1_firstOrder_41 : decode cX1_firstOrder 41 = .ok (.goto (-32), 3) := by decide +kernel
theorem dX1_firstOrder_44 : decode cX1_firstOrder 44 = .ok (.iconst 0, 1) := by decide +kernel
theorem dX1_firstOrder_45 : decode cX1_firstOrder 45 = .ok (.ireturn, 1) := by decide +kernel
theorem dX1_countOrders_0 : decode cX1_countOrders 0 = .ok (.aload_n 0, 1) := by decide +kernel
theorem dX1_countOrders_1 : decode cX1_countOrders 1 = .ok (.aload_n 1, 1) := by decide +kernel
theorem dX1_countOrders_2 : decode cX1_countOrders 2 = .ok (.invokevirtual 109, 3) := by decide +kernel
theorem dX1_countOrders_5 : decode cX1_countOrders 5 = .ok (.istore_n 3, 1) := by decide +kernel
theorem dX1_countOrders_6 : decode cX1_countOrders 6 = .ok (.iconst 0, 1) := by decide +kernel
theorem dX1_countOrders_7 : decode cX1_countOrders 7 = .ok (.istore 4, 2) := by decide +kernel
theorem dX1_countOrders_9 : decode cX1_countOrders 9 = .ok (.iconst 0, 1) := by decide +kernel
theorem dX1_countOrders_10 : decode cX1_countOrders 10 = .ok (.istore 5, 2) := by decide +kernel
theorem dX1_countOrders_12 : decode cX1_countOrders 12 = .ok (.iload 5, 2) := by decide +kernel
theorem dX1_countOrders_14 : decode cX1_countOrders 14 = .ok (.iload_n 3, 1) := by decide +kernel
theorem dX1_countOrders_15 : decode cX1_countOrders 15 = .ok (.if_icmp .ge 40, 3) := by decide +kernel
theorem dX1_countOrders_18 : decode cX1_countOrders 18 = .ok (.iload 4, 2) := by decide +kernel
theorem dX1_countOrders_20 : decode cX1_countOrders 20 = .ok (.aload_n 0, 1) := by decide +kernel
theorem dX1_countOrders_21 : decode cX1_countOrders 21 = .ok (.aload_n 1, 1) := by decide +kernel
theorem dX1_countOrders_22 : decode cX1_countOrders 22 = .ok (.aload_n 0, 1) := by decide +kernel
theorem dX1_countOrders_23 : decode cX1_countOrders 23 = .ok (.getfield 38, 3) := by decide +kernel
theorem dX1_countOrders_26 : decode cX1_countOrders 26 = .ok (.invokevirtual 113, 3) := by decide +kernel
theorem dX1_countOrders_29 : decode cX1_countOrders 29 = .ok (.invokevirtual 117, 3) := by decide +kernel
theorem dX1_countOrders_32 : decode cX1_countOrders 32 = .ok (.iload_n 2, 1) := by decide +kernel
theorem dX1_countOrders_33 : decode cX1_countOrders 33 = .ok (.if_icmp .ne 7, 3) := by decide +kernel
theorem dX1_countOrders_36 : decode cX1_countOrders 36 = .ok (.iconst 1, 1) := by decide +kernel
theorem dX1_countOrders_37 : decode cX1_countOrders 37 = .ok (.goto 4, 3) := by decide +kernel
theorem dX1_countOrders_40 : decode cX1_countOrders 40 = .ok (.iconst 0, 1) := by decide +kernel
theorem dX1_countOrders_41 : decode cX1_countOrders 41 = .ok (.iadd, 1) := by decide +kernel
theorem dX1_countOrders_42 : decode cX1_countOrders 42 = .ok (.istore 4, 2) := by decide +kernel
theorem dX1_countOrders_44 : decode cX1_countOrders 44 = .ok (.aload_n 0, 1) := by decide +kernel
theorem dX1_countOrders_45 : decode cX1_countOrders 45 = .ok (.aload_n 1, 1) := by decide +kernel
theorem dX1_countOrders_46 : decode cX1_countOrders 46 = .ok (.invokevirtual 121, 3) := by decide +kernel
theorem dX1_countOrders_49 : decode cX1_countOrders 49 = .ok (.iinc 5 1, 3) := by decide +kernel
theorem dX1_countOrders_52 : decode cX1_countOrders 52 = .ok (.goto (-40), 3) := by decide +kernel
theorem dX1_countOrders_55 : decode cX1_countOrders 55 = .ok (.iload 4, 2) := by decide +kernel
theorem dX1_countOrders_57 : decode cX1_countOrders 57 = .ok (.ireturn, 1) := by decide +kernel
theorem dX1_beginOrders_0 : decode cX1_beginOrders 0 = .ok (.iconst 1, 1) := by decide +kernel
theorem dX1_beginOrders_1 : decode cX1_beginOrders 1 = .ok (.istore_n 2, 1) := by decide +kernel
theorem dX1_beginOrders_2 : decode cX1_beginOrders 2 = .ok (.iconst 0, 1) := by decide +kernel
theorem dX1_beginOrders_3 : decode cX1_beginOrders 3 = .ok (.istore_n 3, 1) := by decide +kernel
theorem dX1_beginOrders_4 : decode cX1_beginOrders 4 = .ok (.iload_n 3, 1) := by decide +kernel
theorem dX1_beginOrders_5 : decode cX1_beginOrders 5 = .ok (.aload_n 1, 1) := by decide +kernel
theorem dX1_beginOrders_6 : decode cX1_beginOrders 6 = .ok (.arraylength, 1) := by decide +kernel
theorem dX1_beginOrders_7 : decode cX1_beginOrders 7 = .ok (.if_icmp .ge 36, 3) := by decide +kernel
theorem dX1_beginOrders_10 : decode cX1_beginOrders 10 = .ok (.aload_n 1, 1) := by decide +kernel
theorem dX1_beginOrders_11 : decode cX1_beginOrders 11 = .ok (.iload_n 3, 1) := by decide +kernel
theorem dX1_beginOrders_12 : decode cX1_beginOrders 12 = .ok (.iload_n 3, 1) := by decide +kernel
theorem dX1_beginOrders_13 : decode cX1_beginOrders 13 = .ok (.iastore, 1) := by decide +kernel
theorem dX1_beginOrders_14 : decode cX1_beginOrders 14 = .ok (.iload_n 2, 1) := by decide +kernel
theorem dX1_beginOrders_15 : decode cX1_beginOrders 15 = .ok (.iload_n 3, 1) := by decide +kernel
theorem dX1_beginOrders_16 : decode cX1_beginOrders 16 = .ok (.aload_n 0, 1) := by decide +kernel
theorem dX1_beginOrders_17 : decode cX1_beginOrders 17 = .ok (.getfield 38, 3) := by decide +kernel
theorem dX1_beginOrders_20 : decode cX1_beginOrders 20 = .ok (.getfield 53, 3) := by decide +kernel
theorem dX1_beginOrders_23 : decode cX1_beginOrders 23 = .ok (.iconst 0, 1) := by decide +kernel
theorem dX1_beginOrders_24 : decode cX1_beginOrders 24 = .ok (.iaload, 1) := by decide +kernel
theorem dX1_beginOrders_25 : decode cX1_beginOrders 25 = .ok (.if_icmp .ge 9, 3) := by decide +kernel
theorem dX1_beginOrders_28 : decode cX1_beginOrders 28 = .ok (.iload_n 3, 1) := by decide +kernel
theorem dX1_beginOrders_29 : decode cX1_beginOrders 29 = .ok (.iconst 1, 1) := by decide +kernel
theorem dX1_beginOrders_30 : decode cX1_beginOrders 30 = .ok (.iadd, 1) := by decide +kernel
theorem dX1_beginOrders_31 : decode cX1_beginOrders 31 = .ok (.goto 4, 3) := by decide +kernel
theorem dX1_beginOrders_34 : decode cX1_beginOrders 34 = .ok (.iconst 1, 1) := by decide +kernel
theorem dX1_beginOrders_35 : decode cX1_beginOrders 35 = .ok (.imul, 1) := by decide +kernel
theorem dX1_beginOrders_36 : decode cX1_beginOrders 36 = .ok (.istore_n 2, 1) := by decide +kernel
theorem dX1_beginOrders_37 : decode cX1_beginOrders 37 = .ok (.iinc 3 1, 3) := by decide +kernel
theorem dX1_beginOrders_40 : decode cX1_beginOrders 40 = .ok (.goto (-36), 3) := by decide +kernel
theorem dX1_beginOrders_43 : decode cX1_beginOrders 43 = .ok (.iload_n 2, 1) := by decide +kernel
theorem dX1_beginOrders_44 : decode cX1_beginOrders 44 = .ok (.ireturn, 1) := by decide +kernel
theorem dX1_nextOrder_0 : decode cX1_nextOrder 0 = .ok (.aload_n 0, 1) := by decide +kernel
theorem dX1_nextOrder_1 : decode cX1_nextOrder 1 = .ok (.getfield 38, 3) := by decide +kernel
theorem dX1_nextOrder_4 : decode cX1_nextOrder 4 = .ok (.getfield 53, 3) := by decide +kernel
theorem dX1_nextOrder_7 : decode cX1_nextOrder 7 = .ok (.iconst 0, 1) := by decide +kernel
theorem dX1_nextOrder_8 : decode cX1_nextOrder 8 = .ok (.iaload, 1) := by decide +kernel
theorem dX1_nextOrder_9 : decode cX1_nextOrder 9 = .ok (.istore_n 2, 1) := by decide +kernel
theorem dX1_nextOrder_10 : decode cX1_nextOrder 10 = .ok (.iload_n 2, 1) := by decide +kernel
theorem dX1_nextOrder_11 : decode cX1_nextOrder 11 = .ok (.iconst 2, 1) := by decide +kernel
theorem dX1_nextOrder_12 : decode cX1_nextOrder 12 = .ok (.isub, 1) := by decide +kernel
theorem dX1_nextOrder_13 : decode cX1_nextOrder 13 = .ok (.istore_n 3, 1) := by decide +kernel
theorem dX1_nextOrder_14 : decode cX1_nextOrder 14 = .ok (.iload_n 3, 1) := by decide +kernel
theorem dX1_nextOrder_15 : decode cX1_nextOrder 15 = .ok (.ifCond .lt 20, 3) := by decide +kernel
theorem dX1_nextOrder_18 : decode cX1_nextOrder 18 = .ok (.aload_n 1, 1) := by decide +kernel
theorem dX1_nextOrder_19 : decode cX1_nextOrder 19 = .ok (.iload_n 3, 1) := by decide +kernel
theorem dX1_nextOrder_20 : decode cX1_nextOrder 20 = .ok (.iaload, 1) := by decide +kernel
theorem dX1_nextOrder_21 : decode cX1_nextOrder 21 = .ok (.aload_n 1, 1) := by decide +kernel
theorem dX1_nextOrder_22 : decode cX1_nextOrder 22 = .ok (.iload_n 3, 1) := by decide +kernel
theorem dX1_nextOrder_23 : decode cX1_nextOrder 23 = .ok (.iconst 1, 1) := by decide +kernel
theorem dX1_nextOrder_24 : decode cX1_nextOrder 24 = .ok (.iadd, 1) := by decide +kernel
theorem dX1_nextOrder_25 : decode cX1_nextOrder 25 = .ok (.iaload, 1) := by decide +kernel
theorem dX1_nextOrder_26 : decode cX1_nextOrder 26 = .ok (.if_icmp .le 9, 3) := by decide +kernel
theorem dX1_nextOrder_29 : decode cX1_nextOrder 29 = .ok (.iinc 3 (-1), 3) := by decide +kernel
theorem dX1_nextOrder_32 : decode cX1_nextOrder 32 = .ok (.goto (-18), 3) := by decide +kernel
theorem dX1_nextOrder_35 : decode cX1_nextOrder 35 = .ok (.iload_n 3, 1) := by decide +kernel
theorem dX1_nextOrder_36 : decode cX1_nextOrder 36 = .ok (.ifCond .ge 4, 3) := by decide +kernel
theorem dX1_nextOrder_39 : decode cX1_nextOrder 39 = .ok (.return_, 1) := by decide +kernel
theorem dX1_nextOrder_40 : decode cX1_nextOrder 40 = .ok (.iload_n 2, 1) := by decide +kernel
theorem dX1_nextOrder_41 : decode cX1_nextOrder 41 = .ok (.iconst 1, 1) := by decide +kernel
theorem dX1_nextOrder_42 : decode cX1_nextOrder 42 = .ok (.isub, 1) := by decide +kernel
theorem dX1_nextOrder_43 : decode cX1_nextOrder 43 = .ok (.istore 4, 2) := by decide +kernel
theorem dX1_nextOrder_45 : decode cX1_nextOrder 45 = .ok (.iload 4, 2) := by decide +kernel
theorem dX1_nextOrder_47 : decode cX1_nextOrder 47 = .ok (.iload_n 3, 1) := by decide +kernel
theorem dX1_nextOrder_48 : decode cX1_nextOrder 48 = .ok (.if_icmp .le 19, 3) := by decide +kernel
theorem dX1_nextOrder_51 : decode cX1_nextOrder 51 = .ok (.aload_n 1, 1) := by decide +kernel
theorem dX1_nextOrder_52 : decode cX1_nextOrder 52 = .ok (.iload 4, 2) := by decide +kernel
theorem dX1_nextOrder_54 : decode cX1_nextOrder 54 = .ok (.iaload, 1) := by decide +kernel
theorem dX1_nextOrder_55 : decode cX1_nextOrder 55 = .ok (.aload_n 1, 1) := by decide +kernel
theorem dX1_nextOrder_56 : decode cX1_nextOrder 56 = .ok (.iload_n 3, 1) := by decide +kernel
theorem dX1_nextOrder_57 : decode cX1_nextOrder 57 = .ok (.iaload, 1) := by decide +kernel
theorem dX1_nextOrder_58 : decode cX1_nextOrder 58 = .ok (.if_icmp .ge 9, 3) := by decide +kernel
theorem dX1_nextOrder_61 : decode cX1_nextOrder 61 = .ok (.iinc 4 (-1), 3) := by decide +kernel
theorem dX1_nextOrder_64 : decode cX1_nextOrder 64 = .ok (.goto (-19), 3) := by decide +kernel
theorem dX1_nextOrder_67 : decode cX1_nextOrder 67 = .ok (.aload_n 1, 1) := by decide +kernel
theorem dX1_nextOrder_68 : decode cX1_nextOrder 68 = .ok (.iload_n 3, 1) := by decide +kernel
theorem dX1_nextOrder_69 : decode cX1_nextOrder 69 = .ok (.iload 4, 2) := by decide +kernel
theorem dX1_nextOrder_71 : decode cX1_nextOrder 71 = .ok (.invokestatic 125, 3) := by decide +kernel
theorem dX1_nextOrder_74 : decode cX1_nextOrder 74 = .ok (.iload_n 3, 1) := by decide +kernel
theorem dX1_nextOrder_75 : decode cX1_nextOrder 75 = .ok (.iconst 1, 1) := by decide +kernel
theorem dX1_nextOrder_76 : decode cX1_nextOrder 76 = .ok (.iadd, 1) := by decide +kernel
theorem dX1_nextOrder_77 : decode cX1_nextOrder 77 = .ok (.istore 5, 2) := by decide +kernel
theorem dX1_nextOrder_79 : decode cX1_nextOrder 79 = .ok (.iload_n 2, 1) := by decide +kernel
theorem dX1_nextOrder_80 : decode cX1_nextOrder 80 = .ok (.iconst 1, 1) := by decide +kernel
theorem dX1_nextOrder_81 : decode cX1_nextOrder 81 = .ok (.isub, 1) := by decide +kernel
theorem dX1_nextOrder_82 : decode cX1_nextOrder 82 = .ok (.istore 6, 2) := by decide +kernel
theorem dX1_nextOrder_84 : decode cX1_nextOrder 84 = .ok (.iload 5, 2) := by decide +kernel
theorem dX1_nextOrder_86 : decode cX1_nextOrder 86 = .ok (.iload 6, 2) := by decide +kernel
theorem dX1_nextOrder_88 : decode cX1_nextOrder 88 = .ok (.if_icmp .ge 20, 3) := by decide +kernel
theorem dX1_nextOrder_91 : decode cX1_nextOrder 91 = .ok (.aload_n 1, 1) := by decide +kernel
theorem dX1_nextOrder_92 : decode cX1_nextOrder 92 = .ok (.iload 5, 2) := by decide +kernel
theorem dX1_nextOrder_94 : decode cX1_nextOrder 94 = .ok (.iload 6, 2) := by decide +kernel
theorem dX1_nextOrder_96 : decode cX1_nextOrder 96 = .ok (.invokestatic 125, 3) := by decide +kernel
theorem dX1_nextOrder_99 : decode cX1_nextOrder 99 = .ok (.iinc 5 1, 3) := by decide +kernel
theorem dX1_nextOrder_102 : decode cX1_nextOrder 102 = .ok (.iinc 6 (-1), 3) := by decide +kernel
theorem dX1_nextOrder_105 : decode cX1_nextOrder 105 = .ok (.goto (-21), 3) := by decide +kernel
theorem dX1_nextOrder_108 : decode cX1_nextOrder 108 = .ok (.return_, 1) := by decide +kernel
theorem dX1_exchange_0 : decode cX1_exchange 0 = .ok (.aload_n 0, 1) := by decide +kernel
theorem dX1_exchange_1 : decode cX1_exchange 1 = .ok (.iload_n 1, 1) := by decide +kernel
theorem dX1_exchange_2 : decode cX1_exchange 2 = .ok (.iaload, 1) := by decide +kernel
theorem dX1_exchange_3 : decode cX1_exchange 3 = .ok (.istore_n 3, 1) := by decide +kernel
theorem dX1_exchange_4 : decode cX1_exchange 4 = .ok (.aload_n 0, 1) := by decide +kernel
theorem dX1_exchange_5 : decode cX1_exchange 5 = .ok (.iload_n 1, 1) := by decide +kernel
theorem dX1_exchange_6 : decode cX1_exchange 6 = .ok (.aload_n 0, 1) := by decide +kernel
theorem dX1_exchange_7 : decode cX1_exchange 7 = .ok (.iload_n 2, 1) := by decide +kernel
theorem dX1_exchange_8 : decode cX1_exchange 8 = .ok (.iaload, 1) := by decide +kernel
theorem dX1_exchange_9 : decode cX1_exchange 9 = .ok (.iastore, 1) := by decide +kernel
theorem dX1_exchange_10 : decode cX1_exchange 10 = .ok (.aload_n 0, 1) := by decide +kernel
theorem dX1_exchange_11 : decode cX1_exchange 11 = .ok (.iload_n 2, 1) := by decide +kernel
theorem dX1_exchange_12 : decode cX1_exchange 12 = .ok (.iload_n 3, 1) := by decide +kernel
theorem dX1_exchange_13 : decode cX1_exchange 13 = .ok (.iastore, 1) := by decide +kernel
theorem dX1_exchange_14 : decode cX1_exchange 14 = .ok (.return_, 1) := by decide +kernel
theorem dX1_powerOf_0 : decode cX1_powerOf 0 = .ok (.iconst 0, 1) := by decide +kernel
theorem dX1_powerOf_1 : decode cX1_powerOf 1 = .ok (.istore_n 2, 1) := by decide +kernel
theorem dX1_powerOf_2 : decode cX1_powerOf 2 = .ok (.iconst 0, 1) := by decide +kernel
theorem dX1_powerOf_3 : decode cX1_powerOf 3 = .ok (.istore_n 3, 1) := by decide +kernel
theorem dX1_powerOf_4 : decode cX1_powerOf 4 = .ok (.iload_n 3, 1) := by decide +kernel
theorem dX1_powerOf_5 : decode cX1_powerOf 5 = .ok (.aload_n 0, 1) := by decide +kernel
theorem dX1_powerOf_6 : decode cX1_powerOf 6 = .ok (.getfield 38, 3) := by decide +kernel
theorem dX1_powerOf_9 : decode cX1_powerOf 9 = .ok (.invokevirtual 113, 3) := by decide +kernel
theorem dX1_powerOf_12 : decode cX1_powerOf 12 = .ok (.if_icmp .gt 56, 3) := by decide +kernel
theorem dX1_powerOf_15 : decode cX1_powerOf 15 = .ok (.iload_n 3, 1) := by decide +kernel
theorem dX1_powerOf_16 : decode cX1_powerOf 16 = .ok (.iload_n 1, 1) := by decide +kernel
theorem dX1_powerOf_17 : decode cX1_powerOf 17 = .ok (.ishr, 1) := by decide +kernel
theorem dX1_powerOf_18 : decode cX1_powerOf 18 = .ok (.iconst 1, 1) := by decide +kernel
theorem dX1_powerOf_19 : decode cX1_powerOf 19 = .ok (.iand, 1) := by decide +kernel
theorem dX1_powerOf_20 : decode cX1_powerOf 20 = .ok (.ifCond .ne 42, 3) := by decide +kernel
theorem dX1_powerOf_23 : decode cX1_powerOf 23 = .ok (.iload_n 2, 1) := by decide +kernel
theorem dX1_powerOf_24 : decode cX1_powerOf 24 = .ok (.aload_n 0, 1) := by decide +kernel
theorem dX1_powerOf_25 : decode cX1_powerOf 25 = .ok (.aload_n 0, 1) := by decide +kernel
theorem dX1_powerOf_26 : decode cX1_powerOf 26 = .ok (.getfield 42, 3) := by decide +kernel
theorem dX1_powerOf_29 : decode cX1_powerOf 29 = .ok (.getfield 129, 3) := by decide +kernel
theorem dX1_powerOf_32 : decode cX1_powerOf 32 = .ok (.iload_n 3, 1) := by decide +kernel
theorem dX1_powerOf_33 : decode cX1_powerOf 33 = .ok (.invokevirtual 117, 3) := by decide +kernel
theorem dX1_powerOf_36 : decode cX1_powerOf 36 = .ok (.aload_n 0, 1) := by decide +kernel
theorem dX1_powerOf_37 : decode cX1_powerOf 37 = .ok (.aload_n 0, 1) := by decide +kernel
theorem dX1_powerOf_38 : decode cX1_powerOf 38 = .ok (.getfield 42, 3) := by decide +kernel
theorem dX1_powerOf_41 : decode cX1_powerOf 41 = .ok (.getfield 129, 3) := by decide +kernel
theorem dX1_powerOf_44 : decode cX1_powerOf 44 = .ok (.iload_n 3, 1) := by decide +kernel
theorem dX1_powerOf_45 : decode cX1_powerOf 45 = .ok (.iconst 1, 1) := by decide +kernel
theorem dX1_powerOf_46 : decode cX1_powerOf 46 = .ok (.iload_n 1, 1) := by decide +kernel
theorem dX1_powerOf_47 : decode cX1_powerOf 47 = .ok (.ishl, 1) := by decide +kernel
theorem dX1_powerOf_48 : decode cX1_powerOf 48 = .ok (.ior, 1) := by decide +kernel
theorem dX1_powerOf_49 : decode cX1_powerOf 49 = .ok (.invokevirtual 117, 3) := by decide +kernel
theorem dX1_powerOf_52 : decode cX1_powerOf 52 = .ok (.if_icmp .eq 7, 3) := by decide +kernel
theorem dX1_powerOf_55 : decode cX1_powerOf 55 = .ok (.iconst 1, 1) := by decide +kernel
theorem dX1_powerOf_56 : decode cX1_powerOf 56 = .ok (.goto 4, 3) := by decide +kernel
theorem dX1_powerOf_59 : decode cX1_powerOf 59 = .ok (.iconst 0, 1) := by decide +kernel
theorem dX1_powerOf_60 : decode cX1_powerOf 60 = .ok (.iadd, 1) := by decide +kernel
theorem dX1_powerOf_61 : decode cX1_powerOf 61 = .ok (.istore_n 2, 1) := by decide +kernel
theorem dX1_powerOf_62 : decode cX1_powerOf 62 = .ok (.iinc 3 1, 3) := by decide +kernel
theorem dX1_powerOf_65 : decode cX1_powerOf 65 = .ok (.goto (-61), 3) := by decide +kernel
theorem dX1_powerOf_68 : decode cX1_powerOf 68 = .ok (.iload_n 2, 1) := by decide +kernel
theorem dX1_powerOf_69 : decode cX1_powerOf 69 = .ok (.ireturn, 1) := by decide +kernel
theorem dX1_oddsOf_0 : decode cX1_oddsOf 0 = .ok (.aload_n 0, 1) := by decide +kernel
theorem dX1_oddsOf_1 : decode cX1_oddsOf 1 = .ok (.getfield 38, 3) := by decide +kernel
theorem dX1_oddsOf_4 : decode cX1_oddsOf 4 = .ok (.getfield 53, 3) := by decide +kernel
theorem dX1_oddsOf_7 : decode cX1_oddsOf 7 = .ok (.iconst 0, 1) := by decide +kernel
theorem dX1_oddsOf_8 : decode cX1_oddsOf 8 = .ok (.iaload, 1) := by decide +kernel
theorem dX1_oddsOf_9 : decode cX1_oddsOf 9 = .ok (.istore_n 2, 1) := by decide +kernel
theorem dX1_oddsOf_10 : decode cX1_oddsOf 10 = .ok (.aload_n 0, 1) := by decide +kernel
theorem dX1_oddsOf_11 : decode cX1_oddsOf 11 = .ok (.getfield 38, 3) := by decide +kernel
theorem dX1_oddsOf_14 : decode cX1_oddsOf 14 = .ok (.invokevirtual 113, 3) := by decide +kernel
theorem dX1_oddsOf_17 : decode cX1_oddsOf 17 = .ok (.istore_n 3, 1) := by decide +kernel
theorem dX1_oddsOf_18 : decode cX1_oddsOf 18 = .ok (.aload_n 0, 1) := by decide +kernel
theorem dX1_oddsOf_19 : decode cX1_oddsOf 19 = .ok (.aload_n 0, 1) := by decide +kernel
theorem dX1_oddsOf_20 : decode cX1_oddsOf 20 = .ok (.getfield 42, 3) := by decide +kernel
theorem dX1_oddsOf_23 : decode cX1_oddsOf 23 = .ok (.getfield 129, 3) := by decide +kernel
theorem dX1_oddsOf_26 : decode cX1_oddsOf 26 = .ok (.iload_n 3, 1) := by decide +kernel
theorem dX1_oddsOf_27 : decode cX1_oddsOf 27 = .ok (.invokevirtual 117, 3) := by decide +kernel
theorem dX1_oddsOf_30 : decode cX1_oddsOf 30 = .ok (.iload_n 1, 1) := by decide +kernel
theorem dX1_oddsOf_31 : decode cX1_oddsOf 31 = .ok (.if_icmp .ne 18, 3) := by decide +kernel
theorem dX1_oddsOf_34 : decode cX1_oddsOf 34 = .ok (.bipush 100, 2) := by decide +kernel
theorem dX1_oddsOf_36 : decode cX1_oddsOf 36 = .ok (.aload_n 0, 1) := by decide +kernel
theorem dX1_oddsOf_37 : decode cX1_oddsOf 37 = .ok (.getfield 38, 3) := by decide +kernel
theorem dX1_oddsOf_40 : decode cX1_oddsOf 40 = .ok (.getfield 132, 3) := by decide +kernel
theorem dX1_oddsOf_43 : decode cX1_oddsOf 43 = .ok (.isub, 1) := by decide +kernel
theorem dX1_oddsOf_44 : decode cX1_oddsOf 44 = .ok (.iload_n 2, 1) := by decide +kernel
theorem dX1_oddsOf_45 : decode cX1_oddsOf 45 = .ok (.imul, 1) := by decide +kernel
theorem dX1_oddsOf_46 : decode cX1_oddsOf 46 = .ok (.goto 4, 3) := by decide +kernel
theorem dX1_oddsOf_49 : decode cX1_oddsOf 49 = .ok (.iconst 0, 1) := by decide +kernel
theorem dX1_oddsOf_50 : decode cX1_oddsOf 50 = .ok (.istore 4, 2) := by decide +kernel
theorem dX1_oddsOf_52 : decode cX1_oddsOf 52 = .ok (.iconst 0, 1) := by decide +kernel
theorem dX1_oddsOf_53 : decode cX1_oddsOf 53 = .ok (.istore 5, 2) := by decide +kernel
theorem dX1_oddsOf_55 : decode cX1_oddsOf 55 = .ok (.iload 5, 2) := by decide +kernel
theorem dX1_oddsOf_57 : decode cX1_oddsOf 57 = .ok (.iload_n 2, 1) := by decide +kernel
theorem dX1_oddsOf_58 : decode cX1_oddsOf 58 = .ok (.if_icmp .ge 48, 3) := by decide +kernel
theorem dX1_oddsOf_61 : decode cX1_oddsOf 61 = .ok (.iload 4, 2) := by decide +kernel
theorem dX1_oddsOf_63 : decode cX1_oddsOf 63 = .ok (.aload_n 0, 1) := by decide +kernel
theorem dX1_oddsOf_64 : decode cX1_oddsOf 64 = .ok (.aload_n 0, 1) := by decide +kernel
theorem dX1_oddsOf_65 : decode cX1_oddsOf 65 = .ok (.getfield 42, 3) := by decide +kernel
theorem dX1_oddsOf_68 : decode cX1_oddsOf 68 = .ok (.getfield 129, 3) := by decide +kernel
theorem dX1_oddsOf_71 : decode cX1_oddsOf 71 = .ok (.iload_n 3, 1) := by decide +kernel
theorem dX1_oddsOf_72 : decode cX1_oddsOf 72 = .ok (.iconst 1, 1) := by decide +kernel
theorem dX1_oddsOf_73 : decode cX1_oddsOf 73 = .ok (.iload 5, 2) := by decide +kernel
theorem dX1_oddsOf_75 : decode cX1_oddsOf 75 = .ok (.ishl, 1) := by decide +kernel
theorem dX1_oddsOf_76 : decode cX1_oddsOf 76 = .ok (.iconst (-1), 1) := by decide +kernel
theorem dX1_oddsOf_77 : decode cX1_oddsOf 77 = .ok (.ixor, 1) := by decide +kernel
theorem dX1_oddsOf_78 : decode cX1_oddsOf 78 = .ok (.iand, 1) := by decide +kernel
theorem dX1_oddsOf_79 : decode cX1_oddsOf 79 = .ok (.invokevirtual 117, 3) := by decide +kernel
theorem dX1_oddsOf_82 : decode cX1_oddsOf 82 = .ok (.iload_n 1, 1) := by decide +kernel
theorem dX1_oddsOf_83 : decode cX1_oddsOf 83 = .ok (.if_icmp .ne 13, 3) := by decide +kernel
theorem dX1_oddsOf_86 : decode cX1_oddsOf 86 = .ok (.aload_n 0, 1) := by decide +kernel
theorem dX1_oddsOf_87 : decode cX1_oddsOf 87 = .ok (.getfield 38, 3) := by decide +kernel
theorem dX1_oddsOf_90 : decode cX1_oddsOf 90 = .ok (.getfield 132, 3) := by decide +kernel
theorem dX1_oddsOf_93 : decode cX1_oddsOf 93 = .ok (.goto 4, 3) := by decide +kernel
theorem dX1_oddsOf_96 : decode cX1_oddsOf 96 = .ok (.iconst 0, 1) := by decide +kernel
theorem dX1_oddsOf_97 : decode cX1_oddsOf 97 = .ok (.iadd, 1) := by decide +kernel
theorem dX1_oddsOf_98 : decode cX1_oddsOf 98 = .ok (.istore 4, 2) := by decide +kernel
theorem dX1_oddsOf_100 : decode cX1_oddsOf 100 = .ok (.iinc 5 1, 3) := by decide +kernel
theorem dX1_oddsOf_103 : decode cX1_oddsOf 103 = .ok (.goto (-48), 3) := by decide +kernel
theorem dX1_oddsOf_106 : decode cX1_oddsOf 106 = .ok (.iload 4, 2) := by decide +kernel
theorem dX1_oddsOf_108 : decode cX1_oddsOf 108 = .ok (.ireturn, 1) := by decide +kernel
theorem dX2_init_0 : decode cX2_init 0 = .ok (.aload_n 0, 1) := by decide +kernel
theorem dX2_init_1 : decode cX2_init 1 = .ok (.invokespecial 3, 3) := by decide +kernel
theorem dX2_init_4 : decode cX2_init 4 = .ok (.aload_n 0, 1) := by decide +kernel
theorem dX2_init_5 : decode cX2_init 5 = .ok (.new 9, 3) := by decide +kernel
theorem dX2_init_8 : decode cX2_init 8 = .ok (.dup, 1) := by decide +kernel
theorem dX2_init_9 : decode cX2_init 9 = .ok (.invokespecial 11, 3) := by decide +kernel
theorem dX2_init_12 : decode cX2_init 12 = .ok (.putfield 12, 3) := by decide +kernel
theorem dX2_init_15 : decode cX2_init 15 = .ok (.aload_n 0, 1) := by decide +kernel
theorem dX2_init_16 : decode cX2_init 16 = .ok (.bipush 48, 2) := by decide +kernel
theorem dX2_init_18 : decode cX2_init 18 = .ok (.newarray .int, 2) := by decide +kernel
theorem dX2_init_20 : decode cX2_init 20 = .ok (.putfield 18, 3) := by decide +kernel
theorem dX2_init_23 : decode cX2_init 23 = .ok (.aload_n 0, 1) := by decide +kernel
theorem dX2_init_24 : decode cX2_init 24 = .ok (.sipush 1260, 3) := by decide +kernel
theorem dX2_init_27 : decode cX2_init 27 = .ok (.newarray .int, 2) := by decide +kernel
theorem dX2_init_29 : decode cX2_init 29 = .ok (.putfield 22, 3) := by decide +kernel
theorem dX2_init_32 : decode cX2_init 32 = .ok (.aload_n 0, 1) := by decide +kernel
theorem dX2_init_33 : decode cX2_init 33 = .ok (.iconst 0, 1) := by decide +kernel
theorem dX2_init_34 : decode cX2_init 34 = .ok (.putfield 25, 3) := by decide +kernel
theorem dX2_init_37 : decode cX2_init 37 = .ok (.aload_n 0, 1) := by decide +kernel
theorem dX2_init_38 : decode cX2_init 38 = .ok (.iconst (-1), 1) := by decide +kernel
theorem dX2_init_39 : decode cX2_init 39 = .ok (.putfield 29, 3) := by decide +kernel
theorem dX2_init_42 : decode cX2_init 42 = .ok (.aload_n 0, 1) := by decide +kernel
theorem dX2_init_43 : decode cX2_init 43 = .ok (.iconst (-1), 1) := by decide +kernel
theorem dX2_init_44 : decode cX2_init 44 = .ok (.putfield 32, 3) := by decide +kernel
theorem dX2_init_47 : decode cX2_init 47 = .ok (.aload_n 0, 1) := by decide +kernel
theorem dX2_init_48 : decode cX2_init 48 = .ok (.iconst (-1), 1) := by decide +kernel
theorem dX2_init_49 : decode cX2_init 49 = .ok (.putfield 35, 3) := by decide +kernel
theorem dX2_init_52 : decode cX2_init 52 = .ok (.aload_n 0, 1) := by decide +kernel
theorem dX2_init_53 : decode cX2_init 53 = .ok (.aload_n 1, 1) := by decide +kernel
theorem dX2_init_54 : decode cX2_init 54 = .ok (.putfield 38, 3) := by decide +kernel
theorem dX2_init_57 : decode cX2_init 57 = .ok (.aload_n 0, 1) := by decide +kernel
theorem dX2_init_58 : decode cX2_init 58 = .ok (.aload_n 2, 1) := by decide +kernel
theorem dX2_init_59 : decode cX2_init 59 = .ok (.putfield 42, 3) := by decide +kernel
theorem dX2_init_62 : decode cX2_init 62 = .ok (.return_, 1) := by decide +kernel
theorem dX2_take_0 : decode cX2_take 0 = .ok (.aload_n 1, 1) := by decide +kernel
theorem dX2_take_1 : decode cX2_take 1 = .ok (.getfield 46, 3) := by decide +kernel
theorem dX2_take_4 : decode cX2_take 4 = .ok (.iconst 3, 1) := by decide +kernel
theorem dX2_take_5 : decode cX2_take 5 = .ok (.idiv, 1) := by decide +kernel
theorem dX2_take_6 : decode cX2_take 6 = .ok (.istore_n 3, 1) := by decide +kernel
theorem dX2_take_7 : decode cX2_take 7 = .ok (.iload_n 3, 1) := by decide +kernel
theorem dX2_take_8 : decode cX2_take 8 = .ok (.iconst 1, 1) := by decide +kernel
theorem dX2_take_9 : decode cX2_take 9 = .ok (.if_icmp .lt 18, 3) := by decide +kernel
theorem dX2_take_12 : decode cX2_take 12 = .ok (.iload_n 3, 1) := by decide +kernel
theorem dX2_take_13 : decode cX2_take 13 = .ok (.bipush 16, 2) := by decide +kernel
theorem dX2_take_15 : decode cX2_take 15 = .ok (.if_icmp .gt 12, 3) := by decide +kernel
theorem dX2_take_18 : decode cX2_take 18 = .ok (.aload_n 1, 1) := by decide +kernel
theorem dX2_take_19 : decode cX2_take 19 = .ok (.getfield 46, 3) := by decide +kernel
theorem dX2_take_22 : decode cX2_take 22 = .ok (.iconst 3, 1) := by decide +kernel
theorem dX2_take_23 : decode cX2_take 23 = .ok (.irem, 1) := by decide +kernel
theorem dX2_take_24 : decode cX2_take 24 = .ok (.ifCond .eq 5, 3) := by decide +kernel
theorem dX2_take_27 : decode cX2_take 27 = .ok (.iconst 0, 1) := by decide +kernel
theorem dX2_take_28 : decode cX2_take 28 = .ok (.ireturn, 1) := by decide +kernel
theorem dX2_take_29 : decode cX2_take 29 = .ok (.iconst 0, 1) := by decide +kernel
theorem dX2_take_30 : decode cX2_take 30 = .ok (.istore 4, 2) := by decide +kernel
theorem dX2_take_32 : decode cX2_take 32 = .ok (.iload 4, 2) := by decide +kernel
theorem dX2_take_34 : decode cX2_take 34 = .ok (.iload_n 3, 1) := by decide +kernel
theorem dX2_take_35 : decode cX2_take 35 = .ok (.if_icmp .ge 72, 3) := by decide +kernel
theorem dX2_take_38 : decode cX2_take 38 = .ok (.aload_n 1, 1) := by decide +kernel
theorem dX2_take_39 : decode cX2_take 39 = .ok (.iconst 3, 1) := by decide +kernel
theorem dX2_take_40 : decode cX2_take 40 = .ok (.iload 4, 2) := by decide +kernel
theorem dX2_take_42 : decode cX2_take 42 = .ok (.imul, 1) := by decide +kernel
theorem dX2_take_43 : decode cX2_take 43 = .ok (.iconst 2, 1) := by decide +kernel
theorem dX2_take_44 : decode cX2_take 44 = .ok (.iadd, 1) := by decide +kernel
theorem dX2_take_45 : decode cX2_take 45 = .ok (.invokevirtual 51, 3) := by decide +kernel
theorem dX2_take_48 : decode cX2_take 48 = .ok (.istore 5, 2) := by decide +kernel
theorem dX2_take_50 : decode cX2_take 50 = .ok (.aload_n 1, 1) := by decide +kernel
theorem dX2_take_51 : decode cX2_take 51 = .ok (.iconst 3, 1) := by decide +kernel
theorem dX2_take_52 : decode cX2_take 52 = .ok (.iload 4, 2) := by decide +kernel
theorem dX2_take_54 : decode cX2_take 54 = .ok (.imul, 1) := by decide +kernel
theorem dX2_take_55 : decode cX2_take 55 = .ok (.invokevirtual 51, 3) := by decide +kernel
theorem dX2_take_58 : decode cX2_take 58 = .ok (.bipush 30, 2) := by decide +kernel
theorem dX2_take_60 : decode cX2_take 60 = .ok (.if_icmp .gt 39, 3) := by decide +kernel
theorem dX2_take_63 : decode cX2_take 63 = .ok (.aload_n 2, 1) := by decide +kernel
theorem dX2_take_64 : decode cX2_take 64 = .ok (.iconst 2, 1) := by decide +kernel
theorem dX2_take_65 : decode cX2_take 65 = .ok (.aload_n 1, 1) := by decide +kernel
theorem dX2_take_66 : decode cX2_take 66 = .ok (.iconst 3, 1) := by decide +kernel
theorem dX2_take_67 : decode cX2_take 67 = .ok (.iload 4, 2) := by decide +kernel
theorem dX2_take_69 : decode cX2_take 69 = .ok (.imul, 1) := by decide +kernel
theorem dX2_take_70 : decode cX2_take 70 = .ok (.iconst 1, 1) := by decide +kernel
theorem dX2_take_71 : decode cX2_take 71 = .ok (.iadd, 1) := by decide +kernel
theorem dX2_take_72 : decode cX2_take 72 = .ok (.invokevirtual 51, 3) := by decide +kernel
theorem dX2_take_75 : decode cX2_take 75 = .ok (.invokevirtual 57, 3) := by decide +kernel
theorem dX2_take_78 : decode cX2_take 78 = .ok (.ifCond .eq 21, 3) := by decide +kernel
theorem dX2_take_81 : decode cX2_take 81 = .ok (.iload 5, 2) := by decide +kernel
theorem dX2_take_83 : decode cX2_take 83 = .ok (.sipush 255, 3) := by decide +kernel
theorem dX2_take_86 : decode cX2_take 86 = .ok (.if_icmp .eq 15, 3) := by decide +kernel
theorem dX2_take_89 : decode cX2_take 89 = .ok (.aload_n 2, 1) := by decide +kernel
theorem dX2_take_90 : decode cX2_take 90 = .ok (.iconst 1, 1) := by decide +kernel
theorem dX2_take_91 : decode cX2_take 91 = .ok (.iload 5, 2) := by decide +kernel
theorem dX2_take_93 : decode cX2_take 93 = .ok (.invokevirtual 57, 3) := by decide +kernel
theorem dX2_take_96 : decode cX2_take 96 = .ok (.ifCond .ne 5, 3) := by decide +kernel
theorem dX2_take_99 : decode cX2_take 99 = .ok (.iconst 0, 1) := by decide +kernel
theorem dX2_take_100 : decode cX2_take 100 = .ok (.ireturn, 1) := by decide +kernel
theorem dX2_take_101 : decode cX2_take 101 = .ok (.iinc 4 1, 3) := by decide +kernel
theorem dX2_take_104 : decode cX2_take 104 = .ok (.goto (-72), 3) := by decide +kernel
theorem dX2_take_107 : decode cX2_take 107 = .ok (.iconst 0, 1) := by decide +kernel
theorem dX2_take_108 : decode cX2_take 108 = .ok (.istore 4, 2) := by decide +kernel
theorem dX2_take_110 : decode cX2_take 110 = .ok (.iload 4, 2) := by decide +kernel
theorem dX2_take_112 : decode cX2_take 112 = .ok (.iconst 3, 1) := by decide +kernel
theorem dX2_take_113 : decode cX2_take 113 = .ok (.iload_n 3, 1) := by decide +kernel
theorem dX2_take_114 : decode cX2_take 114 = .ok (.imul, 1) := by decide +kernel
theorem dX2_take_115 : decode cX2_take 115 = .ok (.if_icmp .ge 22, 3) := by decide +kernel
theorem dX2_take_118 : decode cX2_take 118 = .ok (.aload_n 0, 1) := by decide +kernel
theorem dX2_take_119 : decode cX2_take 119 = .ok (.getfield 18, 3) := by decide +kernel
theorem dX2_take_122 : decode cX2_take 122 = .ok (.iload 4, 2) := by decide +kernel
theorem dX2_take_124 : decode cX2_take 124 = .ok (.aload_n 1, 1) := by decide +kernel
theorem dX2_take_125 : decode cX2_take 125 = .ok (.iload 4, 2) := by decide +kernel
theorem dX2_take_127 : decode cX2_take 127 = .ok (.invokevirtual 51, 3) := by decide +kernel
theorem dX2_take_130 : decode cX2_take 130 = .ok (.iastore, 1) := by decide +kernel
theorem dX2_take_131 : decode cX2_take 131 = .ok (.iinc 4 1, 3) := by decide +kernel
theorem dX2_take_134 : decode cX2_take 134 = .ok (.goto (-24), 3) := by decide +kernel
theorem dX2_take_137 : decode cX2_take 137 = .ok (.aload_n 0, 1) := by decide +kernel
theorem dX2_take_138 : decode cX2_take 138 = .ok (.iload_n 3, 1) := by decide +kernel
theorem dX2_take_139 : decode cX2_take 139 = .ok (.putfield 25, 3) := by decide +kernel
theorem dX2_take_142 : decode cX2_take 142 = .ok (.iconst 1, 1) := by decide +kernel
theorem dX2_take_143 : decode cX2_take 143 = .ok (.ireturn, 1) := by decide +kernel
theorem dX2_left_0 : decode cX2_left 0 = .ok (.iconst 0, 1) := by decide +kernel
theorem dX2_left_1 : decode cX2_left 1 = .ok (.istore 4, 2) := by decide +kernel
theorem dX2_left_3 : decode cX2_left 3 = .ok (.iconst 0, 1) := by decide +kernel
theorem dX2_left_4 : decode cX2_left 4 = .ok (.istore 5, 2) := by decide +kernel
theorem dX2_left_6 : decode cX2_left 6 = .ok (.iload 5, 2) := by decide +kernel
theorem dX2_left_8 : decode cX2_left 8 = .ok (.aload_n 0, 1) := by decide +kernel
theorem dX2_left_9 : decode cX2_left 9 = .ok (.getfield 25, 3) := by decide +kernel
theorem dX2_left_12 : decode cX2_left 12 = .ok (.if_icmp .ge 39, 3) := by decide +kernel
theorem dX2_left_15 : decode cX2_left 15 = .ok (.aload_n 0, 1) := by decide +kernel
theorem dX2_left_16 : decode cX2_left 16 = .ok (.getfield 18, 3) := by decide +kernel
theorem dX2_left_19 : decode cX2_left 19 = .ok (.iconst 3, 1) := by decide +kernel
theorem dX2_left_20 : decode cX2_left 20 = .ok (.iload 5, 2) := by decide +kernel
theorem dX2_left_22 : decode cX2_left 22 = .ok (.imul, 1) := by decide +kernel
theorem dX2_left_23 : decode cX2_left 23 = .ok (.iaload, 1) := by decide +kernel
theorem dX2_left_24 : decode cX2_left 24 = .ok (.iload 4, 2) := by decide +kernel
theorem dX2_left_26 : decode cX2_left 26 = .ok (.if_icmp .le 15, 3) := by decide +kernel
theorem dX2_left_29 : decode cX2_left 29 = .ok (.aload_n 0, 1) := by decide +kernel
theorem dX2_left_30 : decode cX2_left 30 = .ok (.getfield 18, 3) := by decide +kernel
theorem dX2_left_33 : decode cX2_left 33 = .ok (.iconst 3, 1) := by decide +kernel
theorem dX2_left_34 : decode cX2_left 34 = .ok (.iload 5, 2) := by decide +kernel
theorem dX2_left_36 : decode cX2_left 36 = .ok (.imul, 1) := by decide +kernel
theorem dX2_left_37 : decode cX2_left 37 = .ok (.iaload, 1) := by decide +kernel
theorem dX2_left_38 : decode cX2_left 38 = .ok (.goto 5, 3) := by decide +kernel
theorem dX2_left_41 : decode cX2_left 41 = .ok (.iload 4, 2) := by decide +kernel
theorem dX2_left_43 : decode cX2_left 43 = .ok (.istore 4, 2) := by decide +kernel
theorem dX2_left_45 : decode cX2_left 45 = .ok (.iinc 5 1, 3) := by decide +kernel
theorem dX2_left_48 : decode cX2_left 48 = .ok (.goto (-42), 3) := by decide +kernel
theorem dX2_left_51 : decode cX2_left 51 = .ok (.aload_n 0, 1) := by decide +kernel
theorem dX2_left_52 : decode cX2_left 52 = .ok (.getfield 25, 3) := by decide +kernel
theorem dX2_left_55 : decode cX2_left 55 = .ok (.ifCond .ne 7, 3) := by decide +kernel
theorem dX2_left_58 : decode cX2_left 58 = .ok (.sipush 1023, 3) := by decide +kernel
theorem dX2_left_61 : decode cX2_left 61 = .ok (.ireturn, 1) := by decide +kernel
theorem dX2_left_62 : decode cX2_left 62 = .ok (.aload_n 2, 1) := by decide +kernel
theorem dX2_left_63 : decode cX2_left 63 = .ok (.getfield 61, 3) := by decide +kernel
theorem dX2_left_66 : decode cX2_left 66 = .ok (.iload 4, 2) := by decide +kernel
theorem dX2_left_68 : decode cX2_left 68 = .ok (.iadd, 1) := by decide +kernel
theorem dX2_left_69 : decode cX2_left 69 = .ok (.sipush 999, 3) := by decide +kernel
theorem dX2_left_72 : decode cX2_left 72 = .ok (.if_icmp .le 5, 3) := by decide +kernel
theorem dX2_left_75 : decode cX2_left 75 = .ok (.iconst 0, 1) := by decide +kernel
theorem dX2_left_76 : decode cX2_left 76 = .ok (.ireturn, 1) := by decide +kernel
theorem dX2_left_77 : decode cX2_left 77 = .ok (.iconst 0, 1) := by decide +kernel
theorem dX2_left_78 : decode cX2_left 78 = .ok (.istore 5, 2) := by decide +kernel
theorem dX2_left_80 : decode cX2_left 80 = .ok (.iconst 0, 1) := by decide +kernel
theorem dX2_left_81 : decode cX2_left 81 = .ok (.istore 6, 2) := by decide +kernel
theorem dX2_left_83 : decode cX2_left 83 = .ok (.iload 6, 2) := by decide +kernel
theorem dX2_left_85 : decode cX2_left 85 = .ok (.bipush 10, 2) := by decide +kernel
theorem dX2_left_87 : decode cX2_left 87 = .ok (.if_icmp .ge 95, 3) := by decide +kernel
theorem dX2_left_90 : decode cX2_left 90 = .ok (.aload_n 0, 1) := by decide +kernel
theorem dX2_left_91 : decode cX2_left 91 = .ok (.getfield 38, 3) := by decide +kernel
theorem dX2_left_94 : decode cX2_left 94 = .ok (.iload_n 3, 1) := by decide +kernel
theorem dX2_left_95 : decode cX2_left 95 = .ok (.iload 6, 2) := by decide +kernel
theorem dX2_left_97 : decode cX2_left 97 = .ok (.invokevirtual 64, 3) := by decide +kernel
theorem dX2_left_100 : decode cX2_left 100 = .ok (.aload_n 0, 1) := by decide +kernel
theorem dX2_left_101 : decode cX2_left 101 = .ok (.getfield 12, 3) := by decide +kernel
theorem dX2_left_104 : decode cX2_left 104 = .ok (.aload_n 2, 1) := by decide +kernel
theorem dX2_left_105 : decode cX2_left 105 = .ok (.invokevirtual 70, 3) := by decide +kernel
theorem dX2_left_108 : decode cX2_left 108 = .ok (.aload_n 0, 1) := by decide +kernel
theorem dX2_left_109 : decode cX2_left 109 = .ok (.iconst 0, 1) := by decide +kernel
theorem dX2_left_110 : decode cX2_left 110 = .ok (.invokevirtual 74, 3) := by decide +kernel
theorem dX2_left_113 : decode cX2_left 113 = .ok (.istore 7, 2) := by decide +kernel
theorem dX2_left_115 : decode cX2_left 115 = .ok (.iconst 1, 1) := by decide +kernel
theorem dX2_left_116 : decode cX2_left 116 = .ok (.istore 8, 2) := by decide +kernel
theorem dX2_left_118 : decode cX2_left 118 = .ok (.iload 8, 2) := by decide +kernel
theorem dX2_left_120 : decode cX2_left 120 = .ok (.iload 4, 2) := by decide +kernel
theorem dX2_left_122 : decode cX2_left 122 = .ok (.if_icmp .gt 36, 3) := by decide +kernel
theorem dX2_left_125 : decode cX2_left 125 = .ok (.iload 7, 2) := by decide +kernel
theorem dX2_left_127 : decode cX2_left 127 = .ok (.ifCond .eq 31, 3) := by decide +kernel
theorem dX2_left_130 : decode cX2_left 130 = .ok (.aload_n 0, 1) := by decide +kernel
theorem dX2_left_131 : decode cX2_left 131 = .ok (.getfield 42, 3) := by decide +kernel
theorem dX2_left_134 : decode cX2_left 134 = .ok (.aload_n 1, 1) := by decide +kernel
theorem dX2_left_135 : decode cX2_left 135 = .ok (.aload_n 0, 1) := by decide +kernel
theorem dX2_left_136 : decode cX2_left 136 = .ok (.getfield 12, 3) := by decide +kernel
theorem dX2_left_139 : decode cX2_left 139 = .ok (.iconst (-1), 1) := by decide +kernel
theorem dX2_left_140 : decode cX2_left 140 = .ok (.invokevirtual 78, 3) := by decide +kernel
theorem dX2_left_143 : decode cX2_left 143 = .ok (.pop, 1) := by decide +kernel
theorem dX2_left_144 : decode cX2_left 144 = .ok (.aload_n 0, 1) := by decide +kernel
theorem dX2_left_145 : decode cX2_left 145 = .ok (.iload 8, 2) := by decide +kernel
theorem dX2_left_147 : decode cX2_left 147 = .ok (.invokevirtual 74, 3) := by decide +kernel
theorem dX2_left_150 : decode cX2_left 150 = .ok (.istore 7, 2) := by decide +kernel
theorem dX2_left_152 : decode cX2_left 152 = .ok (.iinc 8 1, 3) := by decide +kernel
theorem dX2_left_155 : decode cX2_left 155 = .ok (.goto (-37), 3) := by decide +kernel
theorem dX2_left_158 : decode cX2_left 158 = .ok (.iload 5, 2) := by decide +kernel
theorem dX2_left_160 : decode cX2_left 160 = .ok (.iload 7, 2) := by decide +kernel
theorem dX2_left_162 : decode cX2_left 162 = .ok (.ifCond .eq 10, 3) := by decide +kernel
theorem dX2_left_165 : decode cX2_left 165 = .ok (.iconst 1, 1) := by decide +kernel
theorem dX2_left_166 : decode cX2_left 166 = .ok (.iload 6, 2) := by decide +kernel
theorem dX2_left_168 : decode cX2_left 168 = .ok (.ishl, 1) := by decide +kernel
theorem dX2_left_169 : decode cX2_left 169 = .ok (.goto 4, 3) := by decide +kernel
theorem dX2_left_172 : decode cX2_left 172 = .ok (.iconst 0, 1) := by decide +kernel
theorem dX2_left_173 : decode cX2_left 173 = .ok (.ior, 1) := by decide +kernel
theorem dX2_left_174 : decode cX2_left 174 = .ok (.istore 5, 2) := by decide +kernel
theorem dX2_left_176 : decode cX2_left 176 = .ok (.iinc 6 1, 3) := by decide +kernel
theorem dX2_left_179 : decode cX2_left 179 = .ok (.goto (-96), 3) := by decide +kernel
theorem dX2_left_182 : decode cX2_left 182 = .ok (.aload_n 0, 1) := by decide +kernel
theorem dX2_left_183 : decode cX2_left 183 = .ok (.getfield 38, 3) := by decide +kernel
theorem dX2_left_186 : decode cX2_left 186 = .ok (.iconst (-1), 1) := by decide +kernel
theorem dX2_left_187 : decode cX2_left 187 = .ok (.iconst 0, 1) := by decide +kernel
theorem dX2_left_188 : decode cX2_left 188 = .ok (.invokevirtual 64, 3) := by decide +kernel
theorem dX2_left_191 : decode cX2_left 191 = .ok (.iload 5, 2) := by decide +kernel
theorem dX2_left_193 : decode cX2_left 193 = .ok (.ireturn, 1) := by decide +kernel
theorem dX2_agrees_0 : decode cX2_agrees 0 = .ok (.iconst 0, 1) := by decide +kernel
theorem dX2_agrees_1 : decode cX2_agrees 1 = .ok (.istore_n 2, 1) := by decide +kernel
theorem dX2_agrees_2 : decode cX2_agrees 2 = .ok (.iload_n 2, 1) := by decide +kernel
theorem dX2_agrees_3 : decode cX2_agrees 3 = .ok (.aload_n 0, 1) := by decide +kernel
theorem dX2_agrees_4 : decode cX2_agrees 4 = .ok (.getfield 25, 3) := by decide +kernel
theorem dX2_agrees_7 : decode cX2_agrees 7 = .ok (.if_icmp .ge 76, 3) := by decide +kernel
theorem dX2_agrees_10 : decode cX2_agrees 10 = .ok (.aload_n 0, 1) := by decide +kernel
theorem dX2_agrees_11 : decode cX2_agrees 11 = .ok (.getfield 18, 3) := by decide +kernel
theorem dX2_agrees_14 : decode cX2_agrees 14 = .ok (.iconst 3, 1) := by decide +kernel
theorem dX2_agrees_15 : decode cX2_agrees 15 = .ok (.iload_n 2, 1) := by decide +kernel
theorem dX2_agrees_16 : decode cX2_agrees 16 = .ok (.imul, 1) := by decide +kernel
theorem dX2_agrees_17 : decode cX2_agrees 17 = .ok (.iconst 2, 1) := by decide +kernel
theorem dX2_agrees_18 : decode cX2_agrees 18 = .ok (.iadd, 1) := by decide +kernel
theorem dX2_agrees_19 : decode cX2_agrees 19 = .ok (.iaload, 1) := by decide +kernel
theorem dX2_agrees_20 : decode cX2_agrees 20 = .ok (.sipush 255, 3) := by decide +kernel
theorem dX2_agrees_23 : decode cX2_agrees 23 = .ok (.if_icmp .ne 7, 3) := by decide +kernel
theorem dX2_agrees_26 : decode cX2_agrees 26 = .ok (.iconst (-1), 1) := by decide +kernel
theorem dX2_agrees_27 : decode cX2_agrees 27 = .ok (.goto 13, 3) := by decide +kernel
theorem dX2_agrees_30 : decode cX2_agrees 30 = .ok (.aload_n 0, 1) := by decide +kernel
theorem dX2_agrees_31 : decode cX2_agrees 31 = .ok (.getfield 18, 3) := by decide +kernel
theorem dX2_agrees_34 : decode cX2_agrees 34 = .ok (.iconst 3, 1) := by decide +kernel
theorem dX2_agrees_35 : decode cX2_agrees 35 = .ok (.iload_n 2, 1) := by decide +kernel
theorem dX2_agrees_36 : decode cX2_agrees 36 = .ok (.imul, 1) := by decide +kernel
theorem dX2_agrees_37 : decode cX2_agrees 37 = .ok (.iconst 2, 1) := by decide +kernel
theorem dX2_agrees_38 : decode cX2_agrees 38 = .ok (.iadd, 1) := by decide +kernel
theorem dX2_agrees_39 : decode cX2_agrees 39 = .ok (.iaload, 1) := by decide +kernel
theorem dX2_agrees_40 : decode cX2_agrees 40 = .ok (.istore_n 3, 1) := by decide +kernel
theorem dX2_agrees_41 : decode cX2_agrees 41 = .ok (.aload_n 0, 1) := by decide +kernel
theorem dX2_agrees_42 : decode cX2_agrees 42 = .ok (.getfield 18, 3) := by decide +kernel
theorem dX2_agrees_45 : decode cX2_agrees 45 = .ok (.iconst 3, 1) := by decide +kernel
theorem dX2_agrees_46 : decode cX2_agrees 46 = .ok (.iload_n 2, 1) := by decide +kernel
theorem dX2_agrees_47 : decode cX2_agrees 47 = .ok (.imul, 1) := by decide +kernel
theorem dX2_agrees_48 : decode cX2_agrees 48 = .ok (.iaload, 1) := by decide +kernel
theorem dX2_agrees_49 : decode cX2_agrees 49 = .ok (.iload_n 1, 1) := by decide +kernel
theorem dX2_agrees_50 : decode cX2_agrees 50 = .ok (.if_icmp .ne 27, 3) := by decide +kernel
theorem dX2_agrees_53 : decode cX2_agrees 53 = .ok (.aload_n 0, 1) := by decide +kernel
theorem dX2_agrees_54 : decode cX2_agrees 54 = .ok (.getfield 12, 3) := by decide +kernel
theorem dX2_agrees_57 : decode cX2_agrees 57 = .ok (.getfield 84, 3) := by decide +kernel
theorem dX2_agrees_60 : decode cX2_agrees 60 = .ok (.aload_n 0, 1) := by decide +kernel
theorem dX2_agrees_61 : decode cX2_agrees 61 = .ok (.getfield 18, 3) := by decide +kernel
theorem dX2_agrees_64 : decode cX2_agrees 64 = .ok (.iconst 3, 1) := by decide +kernel
theorem dX2_agrees_65 : decode cX2_agrees 65 = .ok (.iload_n 2, 1) := by decide +kernel
theorem dX2_agrees_66 : decode cX2_agrees 66 = .ok (.imul, 1) := by decide +kernel
theorem dX2_agrees_67 : decode cX2_agrees 67 = .ok (.iconst 1, 1) := by decide +kernel
theorem dX2_agrees_68 : decode cX2_agrees 68 = .ok (.iadd, 1) := by decide +kernel
theorem dX2_agrees_69 : decode cX2_agrees 69 = .ok (.iaload, 1) := by decide +kernel
theorem dX2_agrees_70 : decode cX2_agrees 70 = .ok (.iaload, 1) := by decide +kernel
theorem dX2_agrees_71 : decode cX2_agrees 71 = .ok (.iload_n 3, 1) := by decide +kernel
theorem dX2_agrees_72 : decode cX2_agrees 72 = .ok (.if_icmp .eq 5, 3) := by decide +kernel
theorem dX2_agrees_75 : decode cX2_agrees 75 = .ok (.iconst 0, 1) := by decide +kernel
theorem dX2_agrees_76 : decode cX2_agrees 76 = .ok (.ireturn, 1) := by decide +kernel
theorem dX2_agrees_77 : decode cX2_agrees 77 = .ok (.iinc 2 1, 3) := by decide +kernel
theorem dX2_agrees_80 : decode cX2_agrees 80 = .ok (.goto (-78), 3) := by decide +kernel
theorem dX2_agrees_83 : decode cX2_agrees 83 = .ok (.iconst 1, 1) := by decide +kernel
theorem dX2_agrees_84 : decode cX2_agrees 84 = .ok (.ireturn, 1) := by decide +kernel
theorem dX2_count_0 : decode cX2_count 0 = .ok (.aload_n 0, 1) := by decide +kernel
theorem dX2_count_1 : decode cX2_count 1 = .ok (.getfield 22, 3) := by decide +kernel
theorem dX2_count_4 : decode cX2_count 4 = .ok (.iconst 0, 1) := by decide +kernel
theorem dX2_count_5 : decode cX2_count 5 = .ok (.invokestatic 87, 3) := by decide +kernel
theorem dX2_count_8 : decode cX2_count 8 = .ok (.iconst 0, 1) := by decide +kernel
theorem dX2_count_9 : decode cX2_count 9 = .ok (.istore 5, 2) := by decide +kernel
theorem dX2_count_11 : decode cX2_count 11 = .ok (.iload 5, 2) := by decide +kernel
theorem dX2_count_13 : decode cX2_count 13 = .ok (.bipush 10, 2) := by decide +kernel
theorem dX2_count_15 : decode cX2_count 15 = .ok (.if_icmp .ge 132, 3) := by decide +kernel
theorem dX2_count_18 : decode cX2_count 18 = .ok (.iload 4, 2) := by decide +kernel
theorem dX2_count_20 : decode cX2_count 20 = .ok (.iload 5, 2) := by decide +kernel
theorem dX2_count_22 : decode cX2_count 22 = .ok (.ishr, 1) := by decide +kernel
theorem dX2_count_23 : decode cX2_count 23 = .ok (.iconst 1, 1) := by decide +kernel
theorem dX2_count_24 : decode cX2_count 24 = .ok (.iand, 1) := by decide +kernel
theorem dX2_count_25 : decode cX2_count 25 = .ok (.ifCond .ne 6, 3) := by decide +kernel
theorem dX2_count_28 : decode cX2_count 28 = .ok (.goto 113, 3) := by decide +kernel
theorem dX2_count_31 : decode cX2_count 31 = .ok (.aload_n 0, 1) := by decide +kernel
theorem dX2_count_32 : decode cX2_count 32 = .ok (.getfield 38, 3) := by decide +kernel
theorem dX2_count_35 : decode cX2_count 35 = .ok (.iload_n 3, 1) := by decide +kernel
theorem dX2_count_36 : decode cX2_count 36 = .ok (.iload 5, 2) := by decide +kernel
theorem dX2_count_38 : decode cX2_count 38 = .ok (.invokevirtual 64, 3) := by decide +kernel
theorem dX2_count_41 : decode cX2_count 41 = .ok (.aload_n 0, 1) := by decide +kernel
theorem dX2_count_42 : decode cX2_count 42 = .ok (.getfield 12, 3) := by decide +kernel
theorem dX2_count_45 : decode cX2_count 45 = .ok (.aload_n 2, 1) := by decide +kernel
theorem dX2_count_46 : decode cX2_count 46 = .ok (.invokevirtual 70, 3) := by decide +kernel
theorem dX2_count_49 : decode cX2_count 49 = .ok (.iconst 1, 1) := by decide +kernel
theorem dX2_count_50 : decode cX2_count 50 = .ok (.istore 6, 2) := by decide +kernel
theorem dX2_count_52 : decode cX2_count 52 = .ok (.iload 6, 2) := by decide +kernel
theorem dX2_count_54 : decode cX2_count 54 = .ok (.bipush 30, 2) := by decide +kernel
theorem dX2_count_56 : decode cX2_count 56 = .ok (.if_icmp .gt 85, 3) := by decide +kernel
theorem dX2_count_59 : decode cX2_count 59 = .ok (.aload_n 2, 1) := by decide +kernel
theorem dX2_count_60 : decode cX2_count 60 = .ok (.getfield 61, 3) := by decide +kernel
theorem dX2_count_63 : decode cX2_count 63 = .ok (.iload 6, 2) := by decide +kernel
theorem dX2_count_65 : decode cX2_count 65 = .ok (.iadd, 1) := by decide +kernel
theorem dX2_count_66 : decode cX2_count 66 = .ok (.sipush 999, 3) := by decide +kernel
theorem dX2_count_69 : decode cX2_count 69 = .ok (.if_icmp .gt 72, 3) := by decide +kernel
theorem dX2_count_72 : decode cX2_count 72 = .ok (.aload_n 0, 1) := by decide +kernel
theorem dX2_count_73 : decode cX2_count 73 = .ok (.getfield 42, 3) := by decide +kernel
theorem dX2_count_76 : decode cX2_count 76 = .ok (.aload_n 1, 1) := by decide +kernel
theorem dX2_count_77 : decode cX2_count 77 = .ok (.aload_n 0, 1) := by decide +kernel
theorem dX2_count_78 : decode cX2_count 78 = .ok (.getfield 12, 3) := by decide +kernel
theorem dX2_count_81 : decode cX2_count 81 = .ok (.iconst (-1), 1) := by decide +kernel
theorem dX2_count_82 : decode cX2_count 82 = .ok (.invokevirtual 78, 3) := by decide +kernel
theorem dX2_count_85 : decode cX2_count 85 = .ok (.pop, 1) := by decide +kernel
theorem dX2_count_86 : decode cX2_count 86 = .ok (.iconst 0, 1) := by decide +kernel
theorem dX2_count_87 : decode cX2_count 87 = .ok (.istore 7, 2) := by decide +kernel
theorem dX2_count_89 : decode cX2_count 89 = .ok (.iload 7, 2) := by decide +kernel
theorem dX2_count_91 : decode cX2_count 91 = .ok (.aload_n 1, 1) := by decide +kernel
theorem dX2_count_92 : decode cX2_count 92 = .ok (.getfield 93, 3) := by decide +kernel
theorem dX2_count_95 : decode cX2_count 95 = .ok (.iconst 2, 1) := by decide +kernel
theorem dX2_count_96 : decode cX2_count 96 = .ok (.iaload, 1) := by decide +kernel
theorem dX2_count_97 : decode cX2_count 97 = .ok (.if_icmp .ge 38, 3) := by decide +kernel
theorem dX2_count_100 : decode cX2_count 100 = .ok (.aload_n 0, 1) := by decide +kernel
theorem dX2_count_101 : decode cX2_count 101 = .ok (.getfield 22, 3) := by decide +kernel
theorem dX2_count_104 : decode cX2_count 104 = .ok (.iload 6, 2) := by decide +kernel
theorem dX2_count_106 : decode cX2_count 106 = .ok (.iload 7, 2) := by decide +kernel
theorem dX2_count_108 : decode cX2_count 108 = .ok (.invokestatic 96, 3) := by decide +kernel
theorem dX2_count_111 : decode cX2_count 111 = .ok (.aload_n 0, 1) := by decide +kernel
theorem dX2_count_112 : decode cX2_count 112 = .ok (.getfield 12, 3) := by decide +kernel
theorem dX2_count_115 : decode cX2_count 115 = .ok (.getfield 84, 3) := by decide +kernel
theorem dX2_count_118 : decode cX2_count 118 = .ok (.iload 7, 2) := by decide +kernel
theorem dX2_count_120 : decode cX2_count 120 = .ok (.iaload, 1) := by decide +kernel
theorem dX2_count_121 : decode cX2_count 121 = .ok (.iadd, 1) := by decide +kernel
theorem dX2_count_122 : decode cX2_count 122 = .ok (.iconst 1, 1) := by decide +kernel
theorem dX2_count_123 : decode cX2_count 123 = .ok (.iadd, 1) := by decide +kernel
theorem dX2_count_124 : decode cX2_count 124 = .ok (.dup2, 1) := by decide +kernel
theorem dX2_count_125 : decode cX2_count 125 = .ok (.iaload, 1) := by decide +kernel
theorem dX2_count_126 : decode cX2_count 126 = .ok (.iconst 1, 1) := by decide +kernel
theorem dX2_count_127 : decode cX2_count 127 = .ok (.iadd, 1) := by decide +kernel
theorem dX2_count_128 : decode cX2_count 128 = .ok (.iastore, 1) := by decide +kernel
theorem dX2_count_129 : decode cX2_count 129 = .ok (.iinc 7 1, 3) := by decide +kernel
theorem dX2_count_132 : decode cX2_count 132 = .ok (.goto (-43), 3) := by decide +kernel
theorem dX2_count_135 : decode cX2_count 135 = .ok (.iinc 6 1, 3) := by decide +kernel
theorem dX2_count_138 : decode cX2_count 138 = .ok (.goto (-86), 3) := by decide +kernel
theorem dX2_count_141 : decode cX2_count 141 = .ok (.iinc 5 1, 3) := by decide +kernel
theorem dX2_count_144 : decode cX2_count 144 = .ok (.goto (-133), 3) := by decide +kernel
theorem dX2_count_147 : decode cX2_count 147 = .ok (.aload_n 0, 1) := by decide +kernel
theorem dX2_count_148 : decode cX2_count 148 = .ok (.getfield 38, 3) := by decide +kernel
theorem dX2_count_151 : decode cX2_count 151 = .ok (.iconst (-1), 1) := by decide +kernel
theorem dX2_count_152 : decode cX2_count 152 = .ok (.iconst 0, 1) := by decide +kernel
theorem dX2_count_153 : decode cX2_count 153 = .ok (.invokevirtual 64, 3) := by decide +kernel
theorem dX2_count_156 : decode cX2_count 156 = .ok (.return_, 1) := by decide +kernel
theorem dX2_slotOf_0 : decode cX2_slotOf 0 = .ok (.iload_n 0, 1) := by decide +kernel
theorem dX2_slotOf_1 : decode cX2_slotOf 1 = .ok (.iconst 1, 1) := by decide +kernel
theorem dX2_slotOf_2 : decode cX2_slotOf 2 = .ok (.isub, 1) := by decide +kernel
theorem dX2_slotOf_3 : decode cX2_slotOf 3 = .ok (.bipush 6, 2) := by decide +kernel
theorem dX2_slotOf_5 : decode cX2_slotOf 5 = .ok (.imul, 1) := by decide +kernel
theorem dX2_slotOf_6 : decode cX2_slotOf 6 = .ok (.iload_n 1, 1) := by decide +kernel
theorem dX2_slotOf_7 : decode cX2_slotOf 7 = .ok (.iadd, 1) := by decide +kernel
theorem dX2_slotOf_8 : decode cX2_slotOf 8 = .ok (.bipush 7, 2) := by decide +kernel
theorem dX2_slotOf_10 : decode cX2_slotOf 10 = .ok (.imul, 1) := by decide +kernel
theorem dX2_slotOf_11 : decode cX2_slotOf 11 = .ok (.ireturn, 1) := by decide +kernel
theorem dX2_findTelling_0 : decode cX2_findTelling 0 = .ok (.aload_n 0, 1) := by decide +kernel
theorem dX2_findTelling_1 : decode cX2_findTelling 1 = .ok (.iconst (-1), 1) := by decide +kernel
theorem dX2_findTelling_2 : decode cX2_findTelling 2 = .ok (.putfield 35, 3) := by decide +kernel
theorem dX2_findTelling_5 : decode cX2_findTelling 5 = .ok (.iconst 1, 1) := by decide +kernel
theorem dX2_findTelling_6 : decode cX2_findTelling 6 = .ok (.istore_n 3, 1) := by decide +kernel
theorem dX2_findTelling_7 : decode cX2_findTelling 7 = .ok (.iload_n 3, 1) := by decide +kernel
theorem dX2_findTelling_8 : decode cX2_findTelling 8 = .ok (.bipush 30, 2) := by decide +kernel
theorem dX2_findTelling_10 : decode cX2_findTelling 10 = .ok (.if_icmp .gt 114, 3) := by decide +kernel
theorem dX2_findTelling_13 : decode cX2_findTelling 13 = .ok (.iload_n 3, 1) := by decide +kernel
theorem dX2_findTelling_14 : decode cX2_findTelling 14 = .ok (.iload_n 2, 1) := by decide +kernel
theorem dX2_findTelling_15 : decode cX2_findTelling 15 = .ok (.if_icmp .gt 109, 3) := by decide +kernel
theorem dX2_findTelling_18 : decode cX2_findTelling 18 = .ok (.iconst 0, 1) := by decide +kernel
theorem dX2_findTelling_19 : decode cX2_findTelling 19 = .ok (.istore 4, 2) := by decide +kernel
theorem dX2_findTelling_21 : decode cX2_findTelling 21 = .ok (.iload 4, 2) := by decide +kernel
theorem dX2_findTelling_23 : decode cX2_findTelling 23 = .ok (.iload_n 1, 1) := by decide +kernel
theorem dX2_findTelling_24 : decode cX2_findTelling 24 = .ok (.if_icmp .ge 94, 3) := by decide +kernel
theorem dX2_findTelling_27 : decode cX2_findTelling 27 = .ok (.iconst 0, 1) := by decide +kernel
theorem dX2_findTelling_28 : decode cX2_findTelling 28 = .ok (.istore 5, 2) := by decide +kernel
theorem dX2_findTelling_30 : decode cX2_findTelling 30 = .ok (.iconst 0, 1) := by decide +kernel
theorem dX2_findTelling_31 : decode cX2_findTelling 31 = .ok (.istore 6, 2) := by decide +kernel
theorem dX2_findTelling_33 : decode cX2_findTelling 33 = .ok (.iload 6, 2) := by decide +kernel
theorem dX2_findTelling_35 : decode cX2_findTelling 35 = .ok (.bipush 7, 2) := by decide +kernel
theorem dX2_findTelling_37 : decode cX2_findTelling 37 = .ok (.if_icmp .ge 41, 3) := by decide +kernel
theorem dX2_findTelling_40 : decode cX2_findTelling 40 = .ok (.aload_n 0, 1) := by decide +kernel
theorem dX2_findTelling_41 : decode cX2_findTelling 41 = .ok (.getfield 22, 3) := by decide +kernel
theorem dX2_findTelling_44 : decode cX2_findTelling 44 = .ok (.iload_n 3, 1) := by decide +kernel
theorem dX2_findTelling_45 : decode cX2_findTelling 45 = .ok (.iload 4, 2) := by decide +kernel
theorem dX2_findTelling_47 : decode cX2_findTelling 47 = .ok (.invokestatic 96, 3) := by decide +kernel
theorem dX2_findTelling_50 : decode cX2_findTelling 50 = .ok (.iload 6, 2) := by decide +kernel
theorem dX2_findTelling_52 : decode cX2_findTelling 52 = .ok (.iadd, 1) := by decide +kernel
theorem dX2_findTelling_53 : decode cX2_findTelling 53 = .ok (.iaload, 1) := by decide +kernel
theorem dX2_findTelling_54 : decode cX2_findTelling 54 = .ok (.istore 7, 2) := by decide +kernel
theorem dX2_findTelling_56 : decode cX2_findTelling 56 = .ok (.iload 7, 2) := by decide +kernel
theorem dX2_findTelling_58 : decode cX2_findTelling 58 = .ok (.iload 5, 2) := by decide +kernel
theorem dX2_findTelling_60 : decode cX2_findTelling 60 = .ok (.if_icmp .le 8, 3) := by decide +kernel
theorem dX2_findTelling_63 : decode cX2_findTelling 63 = .ok (.iload 7, 2) := by decide +kernel
theorem dX2_findTelling_65 : decode cX2_findTelling 65 = .ok (.goto 5, 3) := by decide +kernel
theorem dX2_findTelling_68 : decode cX2_findTelling 68 = .ok (.iload 5, 2) := by decide +kernel
theorem dX2_findTelling_70 : decode cX2_findTelling 70 = .ok (.istore 5, 2) := by decide +kernel
theorem dX2_findTelling_72 : decode cX2_findTelling 72 = .ok (.iinc 6 1, 3) := by decide +kernel
theorem dX2_findTelling_75 : decode cX2_findTelling 75 = .ok (.goto (-42), 3) := by decide +kernel
theorem dX2_findTelling_78 : decode cX2_findTelling 78 = .ok (.aload_n 0, 1) := by decide +kernel
theorem dX2_findTelling_79 : decode cX2_findTelling 79 = .ok (.getfield 35, 3) := by decide +kernel
theorem dX2_findTelling_82 : decode cX2_findTelling 82 = .ok (.iconst (-1), 1) := by decide +kernel
theorem dX2_findTelling_83 : decode cX2_findTelling 83 = .ok (.if_icmp .eq 12, 3) := by decide +kernel
theorem dX2_findTelling_86 : decode cX2_findTelling 86 = .ok (.iload 5, 2) := by decide +kernel
theorem dX2_findTelling_88 : decode cX2_findTelling 88 = .ok (.aload_n 0, 1) := by decide +kernel
theorem dX2_findTelling_89 : decode cX2_findTelling 89 = .ok (.getfield 35, 3) := by decide +kernel
theorem dX2_findTelling_92 : decode cX2_findTelling 92 = .ok (.if_icmp .ge 20, 3) := by decide +kernel
theorem dX2_findTelling_95 : decode cX2_findTelling 95 = .ok (.aload_n 0, 1) := by decide +kernel
theorem dX2_findTelling_96 : decode cX2_findTelling 96 = .ok (.iload_n 3, 1) := by decide +kernel
theorem dX2_findTelling_97 : decode cX2_findTelling 97 = .ok (.putfield 29, 3) := by decide +kernel
theorem dX2_findTelling_100 : decode cX2_findTelling 100 = .ok (.aload_n 0, 1) := by decide +kernel
theorem dX2_findTelling_101 : decode cX2_findTelling 101 = .ok (.iload 4, 2) := by decide +kernel
theorem dX2_findTelling_103 : decode cX2_findTelling 103 = .ok (.putfield 32, 3) := by decide +kernel
theorem dX2_findTelling_106 : decode cX2_findTelling 106 = .ok (.aload_n 0, 1) := by decide +kernel
theorem dX2_findTelling_107 : decode cX2_findTelling 107 = .ok (.iload 5, 2) := by decide +kernel
theorem dX2_findTelling_109 : decode cX2_findTelling 109 = .ok (.putfield 35, 3) := by decide +kernel
theorem dX2_findTelling_112 : decode cX2_findTelling 112 = .ok (.iinc 4 1, 3) := by decide +kernel
theorem dX2_findTelling_115 : decode cX2_findTelling 115 = .ok (.goto (-94), 3) := by decide +kernel
theorem dX2_findTelling_118 : decode cX2_findTelling 118 = .ok (.iinc 3 1, 3) := by decide +kernel
theorem dX2_findTelling_121 : decode cX2_findTelling 121 = .ok (.goto (-114), 3) := by decide +kernel
theorem dX2_findTelling_124 : decode cX2_findTelling 124 = .ok (.return_, 1) := by decide +kernel
theorem dX3_init_0 : decode cX3_init 0 = .ok (.aload_n 0, 1) := by decide +kernel
theorem dX3_init_1 : decode cX3_init 1 = .ok (.invokespecial 3, 3) := by decide +kernel
theorem dX3_init_4 : decode cX3_init 4 = .ok (.aload_n 0, 1) := by decide +kernel
theorem dX3_init_5 : decode cX3_init 5 = .ok (.iconst 3, 1) := by decide +kernel
theorem dX3_init_6 : decode cX3_init 6 = .ok (.newarray .int, 2) := by decide +kernel
theorem dX3_init_8 : decode cX3_init 8 = .ok (.putfield 9, 3) := by decide +kernel
theorem dX3_init_11 : decode cX3_init 11 = .ok (.aload_n 0, 1) := by decide +kernel
theorem dX3_init_12 : decode cX3_init 12 = .ok (.bipush 18, 2) := by decide +kernel
theorem dX3_init_14 : decode cX3_init 14 = .ok (.newarray .int, 2) := by decide +kernel
theorem dX3_init_16 : decode cX3_init 16 = .ok (.putfield 15, 3) := by decide +kernel
theorem dX3_init_19 : decode cX3_init 19 = .ok (.aload_n 0, 1) := by decide +kernel
theorem dX3_init_20 : decode cX3_init 20 = .ok (.bipush 72, 2) := by decide +kernel
theorem dX3_init_22 : decode cX3_init 22 = .ok (.newarray .int, 2) := by decide +kernel
theorem dX3_init_24 : decode cX3_init 24 = .ok (.putfield 18, 3) := by decide +kernel
theorem dX3_init_27 : decode cX3_init 27 = .ok (.aload_n 0, 1) := by decide +kernel
theorem dX3_init_28 : decode cX3_init 28 = .ok (.bipush 6, 2) := by decide +kernel
theorem dX3_init_30 : decode cX3_init 30 = .ok (.newarray .int, 2) := by decide +kernel
theorem dX3_init_32 : decode cX3_init 32 = .ok (.putfield 21, 3) := by decide +kernel
theorem dX3_init_35 : decode cX3_init 35 = .ok (.aload_n 0, 1) := by decide +kernel
theorem dX3_init_36 : decode cX3_init 36 = .ok (.bipush 6, 2) := by decide +kernel
theorem dX3_init_38 : decode cX3_init 38 = .ok (.newarray .int, 2) := by decide +kernel
theorem dX3_init_40 : decode cX3_init 40 = .ok (.putfield 24, 3) := by decide +kernel
theorem dX3_init_43 : decode cX3_init 43 = .ok (.aload_n 0, 1) := by decide +kernel
theorem dX3_init_44 : decode cX3_init 44 = .ok (.sipush 1600, 3) := by decide +kernel
theorem dX3_init_47 : decode cX3_init 47 = .ok (.newarray .int, 2) := by decide +kernel
theorem dX3_init_49 : decode cX3_init 49 = .ok (.putfield 27, 3) := by decide +kernel
theorem dX3_init_52 : decode cX3_init 52 = .ok (.aload_n 0, 1) := by decide +kernel
theorem dX3_init_53 : decode cX3_init 53 = .ok (.iconst 3, 1) := by decide +kernel
theorem dX3_init_54 : decode cX3_init 54 = .ok (.newarray .int, 2) := by decide +kernel
theorem dX3_init_56 : decode cX3_init 56 = .ok (.putfield 30, 3) := by decide +kernel
theorem dX3_init_59 : decode cX3_init 59 = .ok (.aload_n 0, 1) := by decide +kernel
theorem dX3_init_60 : decode cX3_init 60 = .ok (.iconst 3, 1) := by decide +kernel
theorem dX3_init_61 : decode cX3_init 61 = .ok (.newarray .int, 2) := by decide +kernel
theorem dX3_init_63 : decode cX3_init 63 = .ok (.putfield 33, 3) := by decide +kernel
theorem dX3_init_66 : decode cX3_init 66 = .ok (.aload_n 0, 1) := by decide +kernel
theorem dX3_init_67 : decode cX3_init 67 = .ok (.iconst 0, 1) := by decide +kernel
theorem dX3_init_68 : decode cX3_init 68 = .ok (.putfield 36, 3) := by decide +kernel
theorem dX3_init_71 : decode cX3_init 71 = .ok (.aload_n 0, 1) := by decide +kernel
theorem dX3_init_72 : decode cX3_init 72 = .ok (.iconst 0, 1) := by decide +kernel
theorem dX3_init_73 : decode cX3_init 73 = .ok (.putfield 40, 3) := by decide +kernel
theorem dX3_init_76 : decode cX3_init 76 = .ok (.aload_n 0, 1) := by decide +kernel
theorem dX3_init_77 : decode cX3_init 77 = .ok (.iconst 0, 1) := by decide +kernel
theorem dX3_init_78 : decode cX3_init 78 = .ok (.putfield 43, 3) := by decide +kernel
theorem dX3_init_81 : decode cX3_init 81 = .ok (.aload_n 0, 1) := by decide +kernel
theorem dX3_init_82 : decode cX3_init 82 = .ok (.iconst 0, 1) := by decide +kernel
theorem dX3_init_83 : decode cX3_init 83 = .ok (.putfield 46, 3) := by decide +kernel
theorem dX3_init_86 : decode cX3_init 86 = .ok (.aload_n 0, 1) := by decide +kernel
theorem dX3_init_87 : decode cX3_init 87 = .ok (.invokevirtual 49, 3) := by decide +kernel
theorem dX3_init_90 : decode cX3_init 90 = .ok (.return_, 1) := by decide +kernel
theorem dX3_empty_0 : decode cX3_empty 0 = .ok (.aload_n 0, 1) := by decide +kernel
theorem dX3_empty_1 : decode cX3_empty 1 = .ok (.getfield 9, 3) := by decide +kernel
theorem dX3_empty_4 : decode cX3_empty 4 = .ok (.iconst 0, 1) := by decide +kernel
theorem dX3_empty_5 : decode cX3_empty 5 = .ok (.invokestatic 52, 3) := by decide +kernel
theorem dX3_empty_8 : decode cX3_empty 8 = .ok (.aload_n 0, 1) := by decide +kernel
theorem dX3_empty_9 : decode cX3_empty 9 = .ok (.getfield 21, 3) := by decide +kernel
theorem dX3_empty_12 : decode cX3_empty 12 = .ok (.iconst 0, 1) := by decide +kernel
theorem dX3_empty_13 : decode cX3_empty 13 = .ok (.invokestatic 52, 3) := by decide +kernel
theorem dX3_empty_16 : decode cX3_empty 16 = .ok (.aload_n 0, 1) := by decide +kernel
theorem dX3_empty_17 : decode cX3_empty 17 = .ok (.getfield 24, 3) := by decide +kernel
theorem dX3_empty_20 : decode cX3_empty 20 = .ok (.iconst (-1), 1) := by decide +kernel
theorem dX3_empty_21 : decode cX3_empty 21 = .ok (.invokestatic 52, 3) := by decide +kernel
theorem dX3_empty_24 : decode cX3_empty 24 = .ok (.aload_n 0, 1) := by decide +kernel
theorem dX3_empty_25 : decode cX3_empty 25 = .ok (.getfield 30, 3) := by decide +kernel
theorem dX3_empty_28 : decode cX3_empty 28 = .ok (.iconst 0, 1) := by decide +kernel
theorem dX3_empty_29 : decode cX3_empty 29 = .ok (.invokestatic 52, 3) := by decide +kernel
theorem dX3_empty_32 : decode cX3_empty 32 = .ok (.aload_n 0, 1) := by decide +kernel
theorem dX3_empty_33 : decode cX3_empty 33 = .ok (.getfield 33, 3) := by decide +kernel
theorem dX3_empty_36 : decode cX3_empty 36 = .ok (.iconst 0, 1) := by decide +kernel
theorem dX3_empty_37 : decode cX3_empty 37 = .ok (.invokestatic 52, 3) := by decide +kernel
theorem dX3_empty_40 : decode cX3_empty 40 = .ok (.aload_n 0, 1) := by decide +kernel
theorem dX3_empty_41 : decode cX3_empty 41 = .ok (.iconst 0, 1) := by decide +kernel
theorem dX3_empty_42 : decode cX3_empty 42 = .ok (.putfield 36, 3) := by decide +kernel
theorem dX3_empty_45 : decode cX3_empty 45 = .ok (.aload_n 0, 1) := by decide +kernel
theorem dX3_empty_46 : decode cX3_empty 46 = .ok (.iconst 0, 1) := by decide +kernel
theorem dX3_empty_47 : decode cX3_empty 47 = .ok (.putfield 40, 3) := by decide +kernel
theorem dX3_empty_50 : decode cX3_empty 50 = .ok (.aload_n 0, 1) := by decide +kernel
theorem dX3_empty_51 : decode cX3_empty 51 = .ok (.iconst 0, 1) := by decide +kernel
theorem dX3_empty_52 : decode cX3_empty 52 = .ok (.putfield 43, 3) := by decide +kernel
theorem dX3_empty_55 : decode cX3_empty 55 = .ok (.aload_n 0, 1) := by decide +kernel
theorem dX3_empty_56 : decode cX3_empty 56 = .ok (.iconst 0, 1) := by decide +kernel
theorem dX3_empty_57 : decode cX3_empty 57 = .ok (.putfield 46, 3) := by decide +kernel
theorem dX3_empty_60 : decode cX3_empty 60 = .ok (.return_, 1) := by decide +kernel
theorem dX3_isThere_0 : decode cX3_isThere 0 = .ok (.iload_n 1, 1) := by decide +kernel
theorem dX3_isThere_1 : decode cX3_isThere 1 = .ok (.ifCond .lt 30, 3) := by decide +kernel
theorem dX3_isThere_4 : decode cX3_isThere 4 = .ok (.iload_n 1, 1) := by decide +kernel
theorem dX3_isThere_5 : decode cX3_isThere 5 = .ok (.aload_n 0, 1) := by decide +kernel
theorem dX3_isThere_6 : decode cX3_isThere 6 = .ok (.getfield 9, 3) := by decide +kernel
theorem dX3_isThere_9 : decode cX3_isThere 9 = .ok (.arraylength, 1) := by decide +kernel
theorem dX3_isThere_10 : decode cX3_isThere 10 = .ok (.if_icmp .ge 21, 3) := by decide +kernel
theorem dX3_isThere_13 : decode cX3_isThere 13 = .ok (.iload_n 2, 1) := by decide +kernel
theorem dX3_isThere_14 : decode cX3_isThere 14 = .ok (.ifCond .lt 17, 3) := by decide +kernel
theorem dX3_isThere_17 : decode cX3_isThere 17 = .ok (.iload_n 2, 1) := by decide +kernel
theorem dX3_isThere_18 : decode cX3_isThere 18 = .ok (.aload_n 0, 1) := by decide +kernel
theorem dX3_isThere_19 : decode cX3_isThere 19 = .ok (.getfield 9, 3) := by decide +kernel
theorem dX3_isThere_22 : decode cX3_isThere 22 = .ok (.iload_n 1, 1) := by decide +kernel
theorem dX3_isThere_23 : decode cX3_isThere 23 = .ok (.iaload, 1) := by decide +kernel
theorem dX3_isThere_24 : decode cX3_isThere 24 = .ok (.if_icmp .ge 7, 3) := by decide +kernel
theorem dX3_isThere_27 : decode cX3_isThere 27 = .ok (.iconst 1, 1) := by decide +kernel
theorem dX3_isThere_28 : decode cX3_isThere 28 = .ok (.goto 4, 3) := by decide +kernel
theorem dX3_isThere_31 : decode cX3_isThere 31 = .ok (.iconst 0, 1) := by decide +kernel
theorem dX3_isThere_32 : decode cX3_isThere 32 = .ok (.ireturn, 1) := by decide +kernel
theorem dX3_find_0 : decode cX3_find 0 = .ok (.iload_n 1, 1) := by decide +kernel
theorem dX3_find_1 : decode cX3_find 1 = .ok (.ifCond .lt 12, 3) := by decide +kernel
theorem dX3_find_4 : decode cX3_find 4 = .ok (.iload_n 1, 1) := by decide +kernel
theorem dX3_find_5 : decode cX3_find 5 = .ok (.aload_n 0, 1) := by decide +kernel
theorem dX3_find_6 : decode cX3_find 6 = .ok (.getfield 9, 3) := by decide +kernel
theorem dX3_find_9 : decode cX3_find 9 = .ok (.arraylength, 1) := by decide +kernel
theorem dX3_find_10 : decode cX3_find 10 = .ok (.if_icmp .lt 5, 3) := by decide +kernel
theorem dX3_find_13 : decode cX3_find 13 = .ok (.iconst (-1), 1) := by decide +kernel
theorem dX3_find_14 : decode cX3_find 14 = .ok (.ireturn, 1) := by decide +kernel
theorem dX3_find_15 : decode cX3_find 15 = .ok (.iconst 0, 1) := by decide +kernel
theorem dX3_find_16 : decode cX3_find 16 = .ok (.istore_n 3, 1) := by decide +kernel
theorem dX3_find_17 : decode cX3_find 17 = .ok (.iload_n 3, 1) := by decide +kernel
theorem dX3_find_18 : decode cX3_find 18 = .ok (.aload_n 0, 1) := by decide +kernel
theorem dX3_find_19 : decode cX3_find 19 = .ok (.getfield 9, 3) := by decide +kernel
theorem dX3_find_22 : decode cX3_find 22 = .ok (.iload_n 1, 1) := by decide +kernel
theorem dX3_find_23 : decode cX3_find 23 = .ok (.iaload, 1) := by decide +kernel
theorem dX3_find_24 : decode cX3_find 24 = .ok (.if_icmp .ge 26, 3) := by decide +kernel
theorem dX3_find_27 : decode cX3_find 27 = .ok (.aload_n 0, 1) := by decide +kernel
theorem dX3_find_28 : decode cX3_find 28 = .ok (.getfield 15, 3) := by decide +kernel
theorem dX3_find_31 : decode cX3_find 31 = .ok (.iload_n 1, 1) := by decide +kernel
theorem dX3_find_32 : decode cX3_find 32 = .ok (.bipush 6, 2) := by decide +kernel
theorem dX3_find_34 : decode cX3_find 34 = .ok (.imul, 1) := by decide +kernel
theorem dX3_find_35 : decode cX3_find 35 = .ok (.iload_n 3, 1) := by decide +kernel
theorem dX3_find_36 : decode cX3_find 36 = .ok (.iadd, 1) := by decide +kernel
theorem dX3_find_37 : decode cX3_find 37 = .ok (.iaload, 1) := by decide +kernel
theorem dX3_find_38 : decode cX3_find 38 = .ok (.iload_n 2, 1) := by decide +kernel
theorem dX3_find_39 : decode cX3_find 39 = .ok (.if_icmp .ne 5, 3) := by decide +kernel
theorem dX3_find_42 : decode cX3_find 42 = .ok (.iload_n 3, 1) := by decide +kernel
theorem dX3_find_43 : decode cX3_find 43 = .ok (.ireturn, 1) := by decide +kernel
theorem dX3_find_44 : decode cX3_find 44 = .ok (.iinc 3 1, 3) := by decide +kernel
theorem dX3_find_47 : decode cX3_find 47 = .ok (.goto (-30), 3) := by decide +kernel
theorem dX3_find_50 : decode cX3_find 50 = .ok (.iconst (-1), 1) := by decide +kernel
theorem dX3_find_51 : decode cX3_find 51 = .ok (.ireturn, 1) := by decide +kernel
theorem dX3_letterOf_0 : decode cX3_letterOf 0 = .ok (.aload_n 0, 1) := by decide +kernel
theorem dX3_letterOf_1 : decode cX3_letterOf 1 = .ok (.iload_n 1, 1) := by decide +kernel
theorem dX3_letterOf_2 : decode cX3_letterOf 2 = .ok (.iload_n 2, 1) := by decide +kernel
theorem dX3_letterOf_3 : decode cX3_letterOf 3 = .ok (.invokevirtual 58, 3) := by decide +kernel
theorem dX3_letterOf_6 : decode cX3_letterOf 6 = .ok (.ifCond .eq 17, 3) := by decide +kernel
theorem dX3_letterOf_9 : decode cX3_letterOf 9 = .ok (.aload_n 0, 1) := by decide +kernel
theorem dX3_letterOf_10 : decode cX3_letterOf 10 = .ok (.getfield 15, 3) := by decide +kernel
theorem dX3_letterOf_13 : decode cX3_letterOf 13 = .ok (.iload_n 1, 1) := by decide +kernel
theorem dX3_letterOf_14 : decode cX3_letterOf 14 = .ok (.bipush 6, 2) := by decide +kernel
theorem dX3_letterOf_16 : decode cX3_letterOf 16 = .ok (.imul, 1) := by decide +kernel
theorem dX3_letterOf_17 : decode cX3_letterOf 17 = .ok (.iload_n 2, 1) := by decide +kernel
theorem dX3_letterOf_18 : decode cX3_letterOf 18 = .ok (.iadd, 1) := by decide +kernel
theorem dX3_letterOf_19 : decode cX3_letterOf 19 = .ok (.iaload, 1) := by decide +kernel
theorem dX3_letterOf_20 : decode cX3_letterOf 20 = .ok (.goto 4, 3) := by decide +kernel
theorem dX3_letterOf_23 : decode cX3_letterOf 23 = .ok (.iconst 0, 1) := by decide +kernel
theorem dX3_letterOf_24 : decode cX3_letterOf 24 = .ok (.istore 4, 2) := by decide +kernel
theorem dX3_letterOf_26 : decode cX3_letterOf 26 = .ok (.iconst 0, 1) := by decide +kernel
theorem dX3_letterOf_27 : decode cX3_letterOf 27 = .ok (.istore 5, 2) := by decide +kernel
theorem dX3_letterOf_29 : decode cX3_letterOf 29 = .ok (.iload 4, 2) := by decide +kernel
theorem dX3_letterOf_31 : decode cX3_letterOf 31 = .ok (.istore 6, 2) := by decide +kernel
theorem dX3_letterOf_33 : decode cX3_letterOf 33 = .ok (.iload 6, 2) := by decide +kernel
theorem dX3_letterOf_35 : decode cX3_letterOf 35 = .ok (.ifCond .le 23, 3) := by decide +kernel
theorem dX3_letterOf_38 : decode cX3_letterOf 38 = .ok (.iload 5, 2) := by decide +kernel
theorem dX3_letterOf_40 : decode cX3_letterOf 40 = .ok (.bipush 6, 2) := by decide +kernel
theorem dX3_letterOf_42 : decode cX3_letterOf 42 = .ok (.if_icmp .ge 16, 3) := by decide +kernel
theorem dX3_letterOf_45 : decode cX3_letterOf 45 = .ok (.iinc 5 1, 3) := by decide +kernel
theorem dX3_letterOf_48 : decode cX3_letterOf 48 = .ok (.iload 6, 2) := by decide +kernel
theorem dX3_letterOf_50 : decode cX3_letterOf 50 = .ok (.bipush 27, 2) := by decide +kernel
theorem dX3_letterOf_52 : decode cX3_letterOf 52 = .ok (.idiv, 1) := by decide +kernel
theorem dX3_letterOf_53 : decode cX3_letterOf 53 = .ok (.istore 6, 2) := by decide +kernel
theorem dX3_letterOf_55 : decode cX3_letterOf 55 = .ok (.goto (-22), 3) := by decide +kernel
theorem dX3_letterOf_58 : decode cX3_letterOf 58 = .ok (.iload_n 3, 1) := by decide +kernel
theorem dX3_letterOf_59 : decode cX3_letterOf 59 = .ok (.iload 5, 2) := by decide +kernel
theorem dX3_letterOf_61 : decode cX3_letterOf 61 = .ok (.if_icmp .lt 5, 3) := by decide +kernel
theorem dX3_letterOf_64 : decode cX3_letterOf 64 = .ok (.iconst 0, 1) := by decide +kernel
theorem dX3_letterOf_65 : decode cX3_letterOf 65 = .ok (.ireturn, 1) := by decide +kernel
theorem dX3_letterOf_66 : decode cX3_letterOf 66 = .ok (.iload 5, 2) := by decide +kernel
theorem dX3_letterOf_68 : decode cX3_letterOf 68 = .ok (.iconst 1, 1) := by decide +kernel
theorem dX3_letterOf_69 : decode cX3_letterOf 69 = .ok (.isub, 1) := by decide +kernel
theorem dX3_letterOf_70 : decode cX3_letterOf 70 = .ok (.istore 6, 2) := by decide +kernel
theorem dX3_letterOf_72 : decode cX3_letterOf 72 = .ok (.iload 6, 2) := by decide +kernel
theorem dX3_letterOf_74 : decode cX3_letterOf 74 = .ok (.iload_n 3, 1) := by decide +kernel
theorem dX3_letterOf_75 : decode cX3_letterOf 75 = .ok (.if_icmp .le 16, 3) := by decide +kernel
theorem dX3_letterOf_78 : decode cX3_letterOf 78 = .ok (.iload 4, 2) := by decide +kernel
theorem dX3_letterOf_80 : decode cX3_letterOf 80 = .ok (.bipush 27, 2) := by decide +kernel
theorem dX3_letterOf_82 : decode cX3_letterOf 82 = .ok (.idiv, 1) := by decide +kernel
theorem dX3_letterOf_83 : decode cX3_letterOf 83 = .ok (.istore 4, 2) := by decide +kernel
theorem dX3_letterOf_85 : decode cX3_letterOf 85 = .ok (.iinc 6 (-1), 3) := by decide +kernel
theorem dX3_letterOf_88 : decode cX3_letterOf 88 = .ok (.goto (-16), 3) := by decide +kernel
theorem dX3_letterOf_91 : decode cX3_letterOf 91 = .ok (.iload 4, 2) := by decide +kernel
theorem dX3_letterOf_93 : decode cX3_letterOf 93 = .ok (.bipush 27, 2) := by decide +kernel
theorem dX3_letterOf_95 : decode cX3_letterOf 95 = .ok (.irem, 1) := by decide +kernel
theorem dX3_letterOf_96 : decode cX3_letterOf 96 = .ok (.ireturn, 1) := by decide +kernel
theorem dX3_traitOf_0 : decode cX3_traitOf 0 = .ok (.iload_n 1, 1) := by decide +kernel
theorem dX3_traitOf_1 : decode cX3_traitOf 1 = .ok (.bipush 6, 2) := by decide +kernel
theorem dX3_traitOf_3 : decode cX3_traitOf 3 = .ok (.imul, 1) := by decide +kernel
theorem dX3_traitOf_4 : decode cX3_traitOf 4 = .ok (.iload_n 2, 1) := by decide +kernel
theorem dX3_traitOf_5 : decode cX3_traitOf 5 = .ok (.iadd, 1) := by decide +kernel
theorem dX3_traitOf_6 : decode cX3_traitOf 6 = .ok (.iconst 4, 1) := by decide +kernel
theorem dX3_traitOf_7 : decode cX3_traitOf 7 = .ok (.imul, 1) := by decide +kernel
theorem dX3_traitOf_8 : decode cX3_traitOf 8 = .ok (.iload_n 3, 1) := by decide +kernel
theorem dX3_traitOf_9 : decode cX3_traitOf 9 = .ok (.iadd, 1) := by decide +kernel
theorem dX3_traitOf_10 : decode cX3_traitOf 10 = .ok (.istore 4, 2) := by decide +kernel
theorem dX3_traitOf_12 : decode cX3_traitOf 12 = .ok (.iload 4, 2) := by decide +kernel
theorem dX3_traitOf_14 : decode cX3_traitOf 14 = .ok (.ifCond .lt 23, 3) := by decide +kernel
theorem dX3_traitOf_17 : decode cX3_traitOf 17 = .ok (.iload 4, 2) := by decide +kernel
theorem dX3_traitOf_19 : decode cX3_traitOf 19 = .ok (.aload_n 0, 1) := by decide +kernel
theorem dX3_traitOf_20 : decode cX3_traitOf 20 = .ok (.getfield 18, 3) := by decide +kernel
theorem dX3_traitOf_23 : decode cX3_traitOf 23 = .ok (.arraylength, 1) := by decide +kernel
theorem dX3_traitOf_24 : decode cX3_traitOf 24 = .ok (.if_icmp .ge 13, 3) := by decide +kernel
theorem dX3_traitOf_27 : decode cX3_traitOf 27 = .ok (.aload_n 0, 1) := by decide +kernel
theorem dX3_traitOf_28 : decode cX3_traitOf 28 = .ok (.getfield 18, 3) := by decide +kernel
theorem dX3_traitOf_31 : decode cX3_traitOf 31 = .ok (.iload 4, 2) := by decide +kernel
theorem dX3_traitOf_33 : decode cX3_traitOf 33 = .ok (.iaload, 1) := by decide +kernel
theorem dX3_traitOf_34 : decode cX3_traitOf 34 = .ok (.goto 4, 3) := by decide +kernel
theorem dX3_traitOf_37 : decode cX3_traitOf 37 = .ok (.iconst (-1), 1) := by decide +kernel
theorem dX3_traitOf_38 : decode cX3_traitOf 38 = .ok (.ireturn, 1) := by decide +kernel
theorem dX3_isLate_0 : decode cX3_isLate 0 = .ok (.aload_n 0, 1) := by decide +kernel
theorem dX3_isLate_1 : decode cX3_isLate 1 = .ok (.getfield 40, 3) := by decide +kernel
theorem dX3_isLate_4 : decode cX3_isLate 4 = .ok (.iload_n 1, 1) := by decide +kernel
theorem dX3_isLate_5 : decode cX3_isLate 5 = .ok (.ishr, 1) := by decide +kernel
theorem dX3_isLate_6 : decode cX3_isLate 6 = .ok (.iconst 1, 1) := by decide +kernel
theorem dX3_isLate_7 : decode cX3_isLate 7 = .ok (.iand, 1) := by decide +kernel
theorem dX3_isLate_8 : decode cX3_isLate 8 = .ok (.ireturn, 1) := by decide +kernel
theorem dX3_everybody_0 : decode cX3_everybody 0 = .ok (.iconst 1, 1) := by decide +kernel
theorem dX3_everybody_1 : decode cX3_everybody 1 = .ok (.aload_n 0, 1) := by decide +kernel
theorem dX3_everybody_2 : decode cX3_everybody 2 = .ok (.getfield 9, 3) := by decide +kernel
theorem dX3_everybody_5 : decode cX3_everybody 5 = .ok (.iconst 0, 1) := by decide +kernel
theorem dX3_everybody_6 : decode cX3_everybody 6 = .ok (.iaload, 1) := by decide +kernel
theorem dX3_everybody_7 : decode cX3_everybody 7 = .ok (.ishl, 1) := by decide +kernel
theorem dX3_everybody_8 : decode cX3_everybody 8 = .ok (.iconst 1, 1) := by decide +kernel
theorem dX3_everybody_9 : decode cX3_everybody 9 = .ok (.isub, 1) := by decide +kernel
theorem dX3_everybody_10 : decode cX3_everybody 10 = .ok (.ireturn, 1) := by decide +kernel
theorem dX3_hasCode_0 : decode cX3_hasCode 0 = .ok (.iload_n 1, 1) := by decide +kernel
theorem dX3_hasCode_1 : decode cX3_hasCode 1 = .ok (.ifCond .lt 31, 3) := by decide +kernel
theorem dX3_hasCode_4 : decode cX3_hasCode 4 = .ok (.iload_n 1, 1) := by decide +kernel
theorem dX3_hasCode_5 : decode cX3_hasCode 5 = .ok (.aload_n 0, 1) := by decide +kernel
theorem dX3_hasCode_6 : decode cX3_hasCode 6 = .ok (.getfield 33, 3) := by decide +kernel
theorem dX3_hasCode_9 : decode cX3_hasCode 9 = .ok (.arraylength, 1) := by decide +kernel
theorem dX3_hasCode_10 : decode cX3_hasCode 10 = .ok (.if_icmp .ge 22, 3) := by decide +kernel
theorem dX3_hasCode_13 : decode cX3_hasCode 13 = .ok (.aload_n 0, 1) := by decide +kernel
theorem dX3_hasCode_14 : decode cX3_hasCode 14 = .ok (.getfield 33, 3) := by decide +kernel
theorem dX3_hasCode_17 : decode cX3_hasCode 17 = .ok (.iload_n 1, 1) := by decide +kernel
theorem dX3_hasCode_18 : decode cX3_hasCode 18 = .ok (.iaload, 1) := by decide +kernel
theorem dX3_hasCode_19 : decode cX3_hasCode 19 = .ok (.aload_n 0, 1) := by decide +kernel
theorem dX3_hasCode_20 : decode cX3_hasCode 20 = .ok (.getfield 30, 3) := by decide +kernel
theorem dX3_hasCode_23 : decode cX3_hasCode 23 = .ok (.iload_n 1, 1) := by decide +kernel
theorem dX3_hasCode_24 : decode cX3_hasCode 24 = .ok (.iaload, 1) := by decide +kernel
theorem dX3_hasCode_25 : decode cX3_hasCode 25 = .ok (.if_icmp .le 7, 3) := by decide +kernel
theorem dX3_hasCode_28 : decode cX3_hasCode 28 = .ok (.iconst 1, 1) := by decide +kernel
theorem dX3_hasCode_29 : decode cX3_hasCode 29 = .ok (.goto 4, 3) := by decide +kernel
theorem dX3_hasCode_32 : decode cX3_hasCode 32 = .ok (.iconst 0, 1) := by decide +kernel
theorem dX3_hasCode_33 : decode cX3_hasCode 33 = .ok (.ireturn, 1) := by decide +kernel
theorem dX3_matchOf_0 : decode cX3_matchOf 0 = .ok (.iconst 0, 1) := by decide +kernel
theorem dX3_matchOf_1 : decode cX3_matchOf 1 = .ok (.istore 5, 2) := by decide +kernel
theorem dX3_matchOf_3 : decode cX3_matchOf 3 = .ok (.iconst 0, 1) := by decide +kernel
theorem dX3_matchOf_4 : decode cX3_matchOf 4 = .ok (.istore 6, 2) := by decide +kernel
theorem dX3_matchOf_6 : decode cX3_matchOf 6 = .ok (.iload 6, 2) := by decide +kernel
theorem dX3_matchOf_8 : decode cX3_matchOf 8 = .ok (.iconst 3, 1) := by decide +kernel
theorem dX3_matchOf_9 : decode cX3_matchOf 9 = .ok (.if_icmp .ge 72, 3) := by decide +kernel
theorem dX3_matchOf_12 : decode cX3_matchOf 12 = .ok (.iload 6, 2) := by decide +kernel
theorem dX3_matchOf_14 : decode cX3_matchOf 14 = .ok (.ifCond .ne 7, 3) := by decide +kernel
theorem dX3_matchOf_17 : decode cX3_matchOf 17 = .ok (.iload_n 2, 1) := by decide +kernel
theorem dX3_matchOf_18 : decode cX3_matchOf 18 = .ok (.goto 11, 3) := by decide +kernel
theorem dX3_matchOf_21 : decode cX3_matchOf 21 = .ok (.aload_n 0, 1) := by decide +kernel
theorem dX3_matchOf_22 : decode cX3_matchOf 22 = .ok (.iconst 0, 1) := by decide +kernel
theorem dX3_matchOf_23 : decode cX3_matchOf 23 = .ok (.iload_n 1, 1) := by decide +kernel
theorem dX3_matchOf_24 : decode cX3_matchOf 24 = .ok (.iload 6, 2) := by decide +kernel
theorem dX3_matchOf_26 : decode cX3_matchOf 26 = .ok (.invokevirtual 62, 3) := by decide +kernel
theorem dX3_matchOf_29 : decode cX3_matchOf 29 = .ok (.istore 7, 2) := by decide +kernel
theorem dX3_matchOf_31 : decode cX3_matchOf 31 = .ok (.aload_n 0, 1) := by decide +kernel
theorem dX3_matchOf_32 : decode cX3_matchOf 32 = .ok (.iconst 2, 1) := by decide +kernel
theorem dX3_matchOf_33 : decode cX3_matchOf 33 = .ok (.iload_n 3, 1) := by decide +kernel
theorem dX3_matchOf_34 : decode cX3_matchOf 34 = .ok (.iload 6, 2) := by decide +kernel
theorem dX3_matchOf_36 : decode cX3_matchOf 36 = .ok (.invokevirtual 62, 3) := by decide +kernel
theorem dX3_matchOf_39 : decode cX3_matchOf 39 = .ok (.aload_n 0, 1) := by decide +kernel
theorem dX3_matchOf_40 : decode cX3_matchOf 40 = .ok (.iconst 1, 1) := by decide +kernel
theorem dX3_matchOf_41 : decode cX3_matchOf 41 = .ok (.iload 4, 2) := by decide +kernel
theorem dX3_matchOf_43 : decode cX3_matchOf 43 = .ok (.iload 6, 2) := by decide +kernel
theorem dX3_matchOf_45 : decode cX3_matchOf 45 = .ok (.invokevirtual 62, 3) := by decide +kernel
theorem dX3_matchOf_48 : decode cX3_matchOf 48 = .ok (.isub, 1) := by decide +kernel
theorem dX3_matchOf_49 : decode cX3_matchOf 49 = .ok (.istore 8, 2) := by decide +kernel
theorem dX3_matchOf_51 : decode cX3_matchOf 51 = .ok (.iload 5, 2) := by decide +kernel
theorem dX3_matchOf_53 : decode cX3_matchOf 53 = .ok (.iload 7, 2) := by decide +kernel
theorem dX3_matchOf_55 : decode cX3_matchOf 55 = .ok (.bipush 9, 2) := by decide +kernel
theorem dX3_matchOf_57 : decode cX3_matchOf 57 = .ok (.iload 8, 2) := by decide +kernel
theorem dX3_matchOf_59 : decode cX3_matchOf 59 = .ok (.ifCond .ge 9, 3) := by decide +kernel
theorem dX3_matchOf_62 : decode cX3_matchOf 62 = .ok (.iload 8, 2) := by decide +kernel
theorem dX3_matchOf_64 : decode cX3_matchOf 64 = .ok (.ineg, 1) := by decide +kernel
theorem dX3_matchOf_65 : decode cX3_matchOf 65 = .ok (.goto 5, 3) := by decide +kernel
theorem dX3_matchOf_68 : decode cX3_matchOf 68 = .ok (.iload 8, 2) := by decide +kernel
theorem dX3_matchOf_70 : decode cX3_matchOf 70 = .ok (.isub, 1) := by decide +kernel
theorem dX3_matchOf_71 : decode cX3_matchOf 71 = .ok (.imul, 1) := by decide +kernel
theorem dX3_matchOf_72 : decode cX3_matchOf 72 = .ok (.iadd, 1) := by decide +kernel
theorem dX3_matchOf_73 : decode cX3_matchOf 73 = .ok (.istore 5, 2) := by decide +kernel
theorem dX3_matchOf_75 : decode cX3_matchOf 75 = .ok (.iinc 6 1, 3) := by decide +kernel
theorem dX3_matchOf_78 : decode cX3_matchOf 78 = .ok (.goto (-72), 3) := by decide +kernel
theorem dX3_matchOf_81 : decode cX3_matchOf 81 = .ok (.iload 5, 2) := by decide +kernel
theorem dX3_matchOf_83 : decode cX3_matchOf 83 = .ok (.ireturn, 1) := by decide +kernel
theorem dX3_clashes_0 : decode cX3_clashes 0 = .ok (.iconst 0, 1) := by decide +kernel
theorem dX3_clashes_1 : decode cX3_clashes 1 = .ok (.istore_n 2, 1) := by decide +kernel
theorem dX3_clashes_2 : decode cX3_clashes 2 = .ok (.iconst 0, 1) := by decide +kernel
theorem dX3_clashes_3 : decode cX3_clashes 3 = .ok (.istore_n 3, 1) := by decide +kernel
theorem dX3_clashes_4 : decode cX3_clashes 4 = .ok (.iload_n 3, 1) := by decide +kernel
theorem dX3_clashes_5 : decode cX3_clashes 5 = .ok (.aload_n 0, 1) := by decide +kernel
theorem dX3_clashes_6 : decode cX3_clashes 6 = .ok (.getfield 9, 3) := by decide +kernel
theorem dX3_clashes_9 : decode cX3_clashes 9 = .ok (.iconst 2, 1) := by decide +kernel
theorem dX3_clashes_10 : decode cX3_clashes 10 = .ok (.iaload, 1) := by decide +kernel
theorem dX3_clashes_11 : decode cX3_clashes 11 = .ok (.if_icmp .ge 18, 3) := by decide +kernel
theorem dX3_clashes_14 : decode cX3_clashes 14 = .ok (.iload_n 2, 1) := by decide +kernel
theorem dX3_clashes_15 : decode cX3_clashes 15 = .ok (.aload_n 0, 1) := by decide +kernel
theorem dX3_clashes_16 : decode cX3_clashes 16 = .ok (.aload_n 1, 1) := by decide +kernel
theorem dX3_clashes_17 : decode cX3_clashes 17 = .ok (.iload_n 3, 1) := by decide +kernel
theorem dX3_clashes_18 : decode cX3_clashes 18 = .ok (.invokevirtual 66, 3) := by decide +kernel
theorem dX3_clashes_21 : decode cX3_clashes 21 = .ok (.iadd, 1) := by decide +kernel
theorem dX3_clashes_22 : decode cX3_clashes 22 = .ok (.istore_n 2, 1) := by decide +kernel
theorem dX3_clashes_23 : decode cX3_clashes 23 = .ok (.iinc 3 1, 3) := by decide +kernel
theorem dX3_clashes_26 : decode cX3_clashes 26 = .ok (.goto (-22), 3) := by decide +kernel
theorem dX3_clashes_29 : decode cX3_clashes 29 = .ok (.iload_n 2, 1) := by decide +kernel
theorem dX3_clashes_30 : decode cX3_clashes 30 = .ok (.ireturn, 1) := by decide +kernel
theorem dX3_clashesBelow_0 : decode cX3_clashesBelow 0 = .ok (.iconst 0, 1) := by decide +kernel
theorem dX3_clashesBelow_1 : decode cX3_clashesBelow 1 = .ok (.istore_n 3, 1) := by decide +kernel
theorem dX3_clashesBelow_2 : decode cX3_clashesBelow 2 = .ok (.iconst 0, 1) := by decide +kernel
theorem dX3_clashesBelow_3 : decode cX3_clashesBelow 3 = .ok (.istore 4, 2) := by decide +kernel
theorem dX3_clashesBelow_5 : decode cX3_clashesBelow 5 = .ok (.iload 4, 2) := by decide +kernel
theorem dX3_clashesBelow_7 : decode cX3_clashesBelow 7 = .ok (.iload_n 2, 1) := by decide +kernel
theorem dX3_clashesBelow_8 : decode cX3_clashesBelow 8 = .ok (.if_icmp .ge 50, 3) := by decide +kernel
theorem dX3_clashesBelow_11 : decode cX3_clashesBelow 11 = .ok (.iload_n 2, 1) := by decide +kernel
theorem dX3_clashesBelow_12 : decode cX3_clashesBelow 12 = .ok (.aload_n 1, 1) := by decide +kernel
theorem dX3_clashesBelow_13 : decode cX3_clashesBelow 13 = .ok (.arraylength, 1) := by decide +kernel
theorem dX3_clashesBelow_14 : decode cX3_clashesBelow 14 = .ok (.if_icmp .ge 44, 3) := by decide +kernel
theorem dX3_clashesBelow_17 : decode cX3_clashesBelow 17 = .ok (.aload_n 0, 1) := by decide +kernel
theorem dX3_clashesBelow_18 : decode cX3_clashesBelow 18 = .ok (.getfield 21, 3) := by decide +kernel
theorem dX3_clashesBelow_21 : decode cX3_clashesBelow 21 = .ok (.iload_n 2, 1) := by decide +kernel
theorem dX3_clashesBelow_22 : decode cX3_clashesBelow 22 = .ok (.iaload, 1) := by decide +kernel
theorem dX3_clashesBelow_23 : decode cX3_clashesBelow 23 = .ok (.iload 4, 2) := by decide +kernel
theorem dX3_clashesBelow_25 : decode cX3_clashesBelow 25 = .ok (.ishr, 1) := by decide +kernel
theorem dX3_clashesBelow_26 : decode cX3_clashesBelow 26 = .ok (.iconst 1, 1) := by decide +kernel
theorem dX3_clashesBelow_27 : decode cX3_clashesBelow 27 = .ok (.iand, 1) := by decide +kernel
theorem dX3_clashesBelow_28 : decode cX3_clashesBelow 28 = .ok (.iconst 1, 1) := by decide +kernel
theorem dX3_clashesBelow_29 : decode cX3_clashesBelow 29 = .ok (.if_icmp .ne 23, 3) := by decide +kernel
theorem dX3_clashesBelow_32 : decode cX3_clashesBelow 32 = .ok (.aload_n 1, 1) := by decide +kernel
theorem dX3_clashesBelow_33 : decode cX3_clashesBelow 33 = .ok (.iload_n 2, 1) := by decide +kernel
theorem dX3_clashesBelow_34 : decode cX3_clashesBelow 34 = .ok (.iaload, 1) := by decide +kernel
theorem dX3_clashesBelow_35 : decode cX3_clashesBelow 35 = .ok (.iconst (-1), 1) := by decide +kernel
theorem dX3_clashesBelow_36 : decode cX3_clashesBelow 36 = .ok (.if_icmp .eq 16, 3) := by decide +kernel
theorem dX3_clashesBelow_39 : decode cX3_clashesBelow 39 = .ok (.aload_n 1, 1) := by decide +kernel
theorem dX3_clashesBelow_40 : decode cX3_clashesBelow 40 = .ok (.iload_n 2, 1) := by decide +kernel
theorem dX3_clashesBelow_41 : decode cX3_clashesBelow 41 = .ok (.iaload, 1) := by decide +kernel
theorem dX3_clashesBelow_42 : decode cX3_clashesBelow 42 = .ok (.aload_n 1, 1) := by decide +kernel
theorem dX3_clashesBelow_43 : decode cX3_clashesBelow 43 = .ok (.iload 4, 2) := by decide +kernel
theorem dX3_clashesBelow_45 : decode cX3_clashesBelow 45 = .ok (.iaload, 1) := by decide +kernel
theorem dX3_clashesBelow_46 : decode cX3_clashesBelow 46 = .ok (.if_icmp .ne 6, 3) := by decide +kernel
theorem dX3_clashesBelow_49 : decode cX3_clashesBelow 49 = .ok (.iinc 3 1, 3) := by decide +kernel
theorem dX3_clashesBelow_52 : decode cX3_clashesBelow 52 = .ok (.iinc 4 1, 3) := by decide +kernel
theorem dX3_clashesBelow_55 : decode cX3_clashesBelow 55 = .ok (.goto (-50), 3) := by decide +kernel
theorem dX3_clashesBelow_58 : decode cX3_clashesBelow 58 = .ok (.iload_n 3, 1) := by decide +kernel
theorem dX3_clashesBelow_59 : decode cX3_clashesBelow 59 = .ok (.ireturn, 1) := by decide +kernel
theorem dX3_fewestToClear_0 : decode cX3_fewestToClear 0 = .ok (.aload_n 0, 1) := by decide +kernel
theorem dX3_fewestToClear_1 : decode cX3_fewestToClear 1 = .ok (.getfield 9, 3) := by decide +kernel
theorem dX3_fewestToClear_4 : decode cX3_fewestToClear 4 = .ok (.iconst 2, 1) := by decide +kernel
theorem dX3_fewestToClear_5 : decode cX3_fewestToClear 5 = .ok (.iaload, 1) := by decide +kernel
theorem dX3_fewestToClear_6 : decode cX3_fewestToClear 6 = .ok (.istore_n 3, 1) := by decide +kernel
theorem dX3_fewestToClear_7 : decode cX3_fewestToClear 7 = .ok (.iconst 0, 1) := by decide +kernel
theorem dX3_fewestToClear_8 : decode cX3_fewestToClear 8 = .ok (.istore 4, 2) := by decide +kernel
theorem dX3_fewestToClear_10 : decode cX3_fewestToClear 10 = .ok (.iconst 0, 1) := by decide +kernel
theorem dX3_fewestToClear_11 : decode cX3_fewestToClear 11 = .ok (.istore 5, 2) := by decide +kernel
theorem dX3_fewestToClear_13 : decode cX3_fewestToClear 13 = .ok (.iload 5, 2) := by decide +kernel
theorem dX3_fewestToClear_15 : decode cX3_fewestToClear 15 = .ok (.iload_n 3, 1) := by decide +kernel
theorem dX3_fewestToClear_16 : decode cX3_fewestToClear 16 = .ok (.if_icmp .ge 30, 3) := by decide +kernel
theorem dX3_fewestToClear_19 : decode cX3_fewestToClear 19 = .ok (.iload 4, 2) := by decide +kernel
theorem dX3_fewestToClear_21 : decode cX3_fewestToClear 21 = .ok (.aload_n 1, 1) := by decide +kernel
theorem dX3_fewestToClear_22 : decode cX3_fewestToClear 22 = .ok (.iload 5, 2) := by decide +kernel
theorem dX3_fewestToClear_24 : decode cX3_fewestToClear 24 = .ok (.iaload, 1) := by decide +kernel
theorem dX3_fewestToClear_25 : decode cX3_fewestToClear 25 = .ok (.iconst (-1), 1) := by decide +kernel
theorem dX3_fewestToClear_26 : decode cX3_fewestToClear 26 = .ok (.if_icmp .ne 7, 3) := by decide +kernel
theorem dX3_fewestToClear_29 : decode cX3_fewestToClear 29 = .ok (.iconst 0, 1) := by decide +kernel
theorem dX3_fewestToClear_30 : decode cX3_fewestToClear 30 = .ok (.goto 7, 3) := by decide +kernel
theorem dX3_fewestToClear_33 : decode cX3_fewestToClear 33 = .ok (.iconst 1, 1) := by decide +kernel
theorem dX3_fewestToClear_34 : decode cX3_fewestToClear 34 = .ok (.iload 5, 2) := by decide +kernel
theorem dX3_fewestToClear_36 : decode cX3_fewestToClear 36 = .ok (.ishl, 1) := by decide +kernel
theorem dX3_fewestToClear_37 : decode cX3_fewestToClear 37 = .ok (.ior, 1) := by decide +kernel
theorem dX3_fewestToClear_38 : decode cX3_fewestToClear 38 = .ok (.istore 4, 2) := by decide +kernel
theorem dX3_fewestToClear_40 : decode cX3_fewestToClear 40 = .ok (.iinc 5 1, 3) := by decide +kernel
theorem dX3_fewestToClear_43 : decode cX3_fewestToClear 43 = .ok (.goto (-30), 3) := by decide +kernel
theorem dX3_fewestToClear_46 : decode cX3_fewestToClear 46 = .ok (.iconst 0, 1) := by decide +kernel
theorem dX3_fewestToClear_47 : decode cX3_fewestToClear 47 = .ok (.istore 5, 2) := by decide +kernel
theorem dX3_fewestToClear_49 : decode cX3_fewestToClear 49 = .ok (.iload 5, 2) := by decide +kernel
theorem dX3_fewestToClear_51 : decode cX3_fewestToClear 51 = .ok (.iload_n 3, 1) := by decide +kernel
theorem dX3_fewestToClear_52 : decode cX3_fewestToClear 52 = .ok (.if_icmp .gt 68, 3) := by decide +kernel
theorem dX3_fewestToClear_55 : decode cX3_fewestToClear 55 = .ok (.iconst 0, 1) := by decide +kernel
theorem dX3_fewestToClear_56 : decode cX3_fewestToClear 56 = .ok (.istore 6, 2) := by decide +kernel
theorem dX3_fewestToClear_58 : decode cX3_fewestToClear 58 = .ok (.iload 6, 2) := by decide +kernel
theorem dX3_fewestToClear_60 : decode cX3_fewestToClear 60 = .ok (.iload 4, 2) := by decide +kernel
theorem dX3_fewestToClear_62 : decode cX3_fewestToClear 62 = .ok (.if_icmp .gt 52, 3) := by decide +kernel
theorem dX3_fewestToClear_65 : decode cX3_fewestToClear 65 = .ok (.iload 6, 2) := by decide +kernel
theorem dX3_fewestToClear_67 : decode cX3_fewestToClear 67 = .ok (.iload 4, 2) := by decide +kernel
theorem dX3_fewestToClear_69 : decode cX3_fewestToClear 69 = .ok (.iconst (-1), 1) := by decide +kernel
theorem dX3_fewestToClear_70 : decode cX3_fewestToClear 70 = .ok (.ixor, 1) := by decide +kernel
theorem dX3_fewestToClear_71 : decode cX3_fewestToClear 71 = .ok (.iand, 1) := by decide +kernel
theorem dX3_fewestToClear_72 : decode cX3_fewestToClear 72 = .ok (.ifCond .ne 36, 3) := by decide +kernel
theorem dX3_fewestToClear_75 : decode cX3_fewestToClear 75 = .ok (.iload 6, 2) := by decide +kernel
theorem dX3_fewestToClear_77 : decode cX3_fewestToClear 77 = .ok (.invokestatic 70, 3) := by decide +kernel
theorem dX3_fewestToClear_80 : decode cX3_fewestToClear 80 = .ok (.iload 5, 2) := by decide +kernel
theorem dX3_fewestToClear_82 : decode cX3_fewestToClear 82 = .ok (.if_icmp .ne 26, 3) := by decide +kernel
theorem dX3_fewestToClear_85 : decode cX3_fewestToClear 85 = .ok (.aload_n 1, 1) := by decide +kernel
theorem dX3_fewestToClear_86 : decode cX3_fewestToClear 86 = .ok (.iconst 0, 1) := by decide +kernel
theorem dX3_fewestToClear_87 : decode cX3_fewestToClear 87 = .ok (.aload_n 2, 1) := by decide +kernel
theorem dX3_fewestToClear_88 : decode cX3_fewestToClear 88 = .ok (.iconst 0, 1) := by decide +kernel
theorem dX3_fewestToClear_89 : decode cX3_fewestToClear 89 = .ok (.aload_n 2, 1) := by decide +kernel
theorem dX3_fewestToClear_90 : decode cX3_fewestToClear 90 = .ok (.arraylength, 1) := by decide +kernel
theorem dX3_fewestToClear_91 : decode cX3_fewestToClear 91 = .ok (.invokestatic 76, 3) := by decide +kernel
theorem dX3_fewestToClear_94 : decode cX3_fewestToClear 94 = .ok (.aload_n 0, 1) := by decide +kernel
theorem dX3_fewestToClear_95 : decode cX3_fewestToClear 95 = .ok (.aload_n 2, 1) := by decide +kernel
theorem dX3_fewestToClear_96 : decode cX3_fewestToClear 96 = .ok (.iload 6, 2) := by decide +kernel
theorem dX3_fewestToClear_98 : decode cX3_fewestToClear 98 = .ok (.iconst 0, 1) := by decide +kernel
theorem dX3_fewestToClear_99 : decode cX3_fewestToClear 99 = .ok (.invokestatic 82, 3) := by decide +kernel
theorem dX3_fewestToClear_102 : decode cX3_fewestToClear 102 = .ok (.ifCond .eq 6, 3) := by decide +kernel
theorem dX3_fewestToClear_105 : decode cX3_fewestToClear 105 = .ok (.iload 6, 2) := by decide +kernel
theorem dX3_fewestToClear_107 : decode cX3_fewestToClear 107 = .ok (.ireturn, 1) := by decide +kernel
theorem dX3_fewestToClear_108 : decode cX3_fewestToClear 108 = .ok (.iinc 6 1, 3) := by decide +kernel
theorem dX3_fewestToClear_111 : decode cX3_fewestToClear 111 = .ok (.goto (-53), 3) := by decide +kernel
theorem dX3_fewestToClear_114 : decode cX3_fewestToClear 114 = .ok (.iinc 5 1, 3) := by decide +kernel
theorem dX3_fewestToClear_117 : decode cX3_fewestToClear 117 = .ok (.goto (-68), 3) := by decide +kernel
theorem dX3_fewestToClear_120 : decode cX3_fewestToClear 120 = .ok (.iconst (-1), 1) := by decide +kernel
theorem dX3_fewestToClear_121 : decode cX3_fewestToClear 121 = .ok (.ireturn, 1) := by decide +kernel
theorem dX3_canClear_0 : decode cX3_canClear 0 = .ok (.iload_n 3, 1) := by decide +kernel
theorem dX3_canClear_1 : decode cX3_canClear 1 = .ok (.aload_n 0, 1) := by decide +kernel
theorem dX3_canClear_2 : decode cX3_canClear 2 = .ok (.getfield 9, 3) := by decide +kernel
theorem dX3_canClear_5 : decode cX3_canClear 5 = .ok (.iconst 2, 1) := by decide +kernel
theorem dX3_canClear_6 : decode cX3_canClear 6 = .ok (.iaload, 1) := by decide +kernel
theorem dX3_canClear_7 : decode cX3_canClear 7 = .ok (.if_icmp .ge 9, 3) := by decide +kernel
theorem dX3_canClear_10 : decode cX3_canClear 10 = .ok (.iload_n 3, 1) := by decide +kernel
theorem dX3_canClear_11 : decode cX3_canClear 11 = .ok (.aload_n 1, 1) := by decide +kernel
theorem dX3_canClear_12 : decode cX3_canClear 12 = .ok (.arraylength, 1) := by decide +kernel
theorem dX3_canClear_13 : decode cX3_canClear 13 = .ok (.if_icmp .lt 5, 3) := by decide +kernel
theorem dX3_canClear_16 : decode cX3_canClear 16 = .ok (.iconst 1, 1) := by decide +kernel
theorem dX3_canClear_17 : decode cX3_canClear 17 = .ok (.ireturn, 1) := by decide +kernel
theorem dX3_canClear_18 : decode cX3_canClear 18 = .ok (.iload_n 2, 1) := by decide +kernel
theorem dX3_canClear_19 : decode cX3_canClear 19 = .ok (.iload_n 3, 1) := by decide +kernel
theorem dX3_canClear_20 : decode cX3_canClear 20 = .ok (.ishr, 1) := by decide +kernel
theorem dX3_canClear_21 : decode cX3_canClear 21 = .ok (.iconst 1, 1) := by decide +kernel
theorem dX3_canClear_22 : decode cX3_canClear 22 = .ok (.iand, 1) := by decide +kernel
theorem dX3_canClear_23 : decode cX3_canClear 23 = .ok (.ifCond .ne 30, 3) := by decide +kernel
theorem dX3_canClear_26 : decode cX3_canClear 26 = .ok (.aload_n 0, 1) := by decide +kernel
theorem dX3_canClear_27 : decode cX3_canClear 27 = .ok (.aload_n 1, 1) := by decide +kernel
theorem dX3_canClear_28 : decode cX3_canClear 28 = .ok (.iload_n 3, 1) := by decide +kernel
theorem dX3_canClear_29 : decode cX3_canClear 29 = .ok (.invokevirtual 66, 3) := by decide +kernel
theorem dX3_canClear_32 : decode cX3_canClear 32 = .ok (.ifCond .ne 19, 3) := by decide +kernel
theorem dX3_canClear_35 : decode cX3_canClear 35 = .ok (.aload_n 0, 1) := by decide +kernel
theorem dX3_canClear_36 : decode cX3_canClear 36 = .ok (.aload_n 1, 1) := by decide +kernel
theorem dX3_canClear_37 : decode cX3_canClear 37 = .ok (.iload_n 2, 1) := by decide +kernel
theorem dX3_canClear_38 : decode cX3_canClear 38 = .ok (.iload_n 3, 1) := by decide +kernel
theorem dX3_canClear_39 : decode cX3_canClear 39 = .ok (.iconst 1, 1) := by decide +kernel
theorem dX3_canClear_40 : decode cX3_canClear 40 = .ok (.iadd, 1) := by decide +kernel
theorem dX3_canClear_41 : decode cX3_canClear 41 = .ok (.invokestatic 82, 3) := by decide +kernel
theorem dX3_canClear_44 : decode cX3_canClear 44 = .ok (.ifCond .eq 7, 3) := by decide +kernel
theorem dX3_canClear_47 : decode cX3_canClear 47 = .ok (.iconst 1, 1) := by decide +kernel
theorem dX3_canClear_48 : decode cX3_canClear 48 = .ok (.goto 4, 3) := by decide +kernel
theorem dX3_canClear_51 : decode cX3_canClear 51 = .ok (.iconst 0, 1) := by decide +kernel
theorem dX3_canClear_52 : decode cX3_canClear 52 = .ok (.ireturn, 1) := by decide +kernel
theorem dX3_canClear_53 : decode cX3_canClear 53 = .ok (.iconst 0, 1) := by decide +kernel
theorem dX3_canClear_54 : decode cX3_canClear 54 = .ok (.istore 4, 2) := by decide +kernel
theorem dX3_canClear_56 : decode cX3_canClear 56 = .ok (.iload 4, 2) := by decide +kernel
theorem dX3_canClear_58 : decode cX3_canClear 58 = .ok (.aload_n 0, 1) := by decide +kernel
theorem dX3_canClear_59 : decode cX3_canClear 59 = .ok (.getfield 9, 3) := by decide +kernel
theorem dX3_canClear_62 : decode cX3_canClear 62 = .ok (.iconst 1, 1) := by decide +kernel
theorem dX3_canClear_63 : decode cX3_canClear 63 = .ok (.iaload, 1) := by decide +kernel
theorem dX3_canClear_64 : decode cX3_canClear 64 = .ok (.if_icmp .ge 37, 3) := by decide +kernel
theorem dX3_canClear_67 : decode cX3_canClear 67 = .ok (.aload_n 1, 1) := by decide +kernel
theorem dX3_canClear_68 : decode cX3_canClear 68 = .ok (.iload_n 3, 1) := by decide +kernel
theorem dX3_canClear_69 : decode cX3_canClear 69 = .ok (.iload 4, 2) := by decide +kernel
theorem dX3_canClear_71 : decode cX3_canClear 71 = .ok (.iastore, 1) := by decide +kernel
theorem dX3_canClear_72 : decode cX3_canClear 72 = .ok (.aload_n 0, 1) := by decide +kernel
theorem dX3_canClear_73 : decode cX3_canClear 73 = .ok (.aload_n 1, 1) := by decide +kernel
theorem dX3_canClear_74 : decode cX3_canClear 74 = .ok (.iload_n 3, 1) := by decide +kernel
theorem dX3_canClear_75 : decode cX3_canClear 75 = .ok (.invokevirtual 66, 3) := by decide +kernel
theorem dX3_canClear_78 : decode cX3_canClear 78 = .ok (.ifCond .ne 17, 3) := by decide +kernel
theorem dX3_canClear_81 : decode cX3_canClear 81 = .ok (.aload_n 0, 1) := by decide +kernel
theorem dX3_canClear_82 : decode cX3_canClear 82 = .ok (.aload_n 1, 1) := by decide +kernel
theorem dX3_canClear_83 : decode cX3_canClear 83 = .ok (.iload_n 2, 1) := by decide +kernel
theorem dX3_canClear_84 : decode cX3_canClear 84 = .ok (.iload_n 3, 1) := by decide +kernel
theorem dX3_canClear_85 : decode cX3_canClear 85 = .ok (.iconst 1, 1) := by decide +kernel
theorem dX3_canClear_86 : decode cX3_canClear 86 = .ok (.iadd, 1) := by decide +kernel
theorem dX3_canClear_87 : decode cX3_canClear 87 = .ok (.invokestatic 82, 3) := by decide +kernel
theorem dX3_canClear_90 : decode cX3_canClear 90 = .ok (.ifCond .eq 5, 3) := by decide +kernel
theorem dX3_canClear_93 : decode cX3_canClear 93 = .ok (.iconst 1, 1) := by decide +kernel
theorem dX3_canClear_94 : decode cX3_canClear 94 = .ok (.ireturn, 1) := by decide +kernel
theorem dX3_canClear_95 : decode cX3_canClear 95 = .ok (.iinc 4 1, 3) := by decide +kernel
theorem dX3_canClear_98 : decode cX3_canClear 98 = .ok (.goto (-42), 3) := by decide +kernel
theorem dX3_canClear_101 : decode cX3_canClear 101 = .ok (.iconst 0, 1) := by decide +kernel
theorem dX3_canClear_102 : decode cX3_canClear 102 = .ok (.ireturn, 1) := by decide +kernel
theorem dX4_init_0 : decode cX4_init 0 = .ok (.aload_n 0, 1) := by decide +kernel
theorem dX4_init_1 : decode cX4_init 1 = .ok (.invokespecial 1, 3) := by decide +kernel
theorem dX4_init_4 : decode cX4_init 4 = .ok (.aload_n 0, 1) := by decide +kernel
theorem dX4_init_5 : decode cX4_init 5 = .ok (.bipush 20, 2) := by decide +kernel
theorem dX4_init_7 : decode cX4_init 7 = .ok (.anewarray 9, 3) := by decide +kernel
theorem dX4_init_10 : decode cX4_init 10 = .ok (.putfield 11, 3) := by decide +kernel
theorem dX4_init_13 : decode cX4_init 13 = .ok (.aload_n 0, 1) := by decide +kernel
theorem dX4_init_14 : decode cX4_init 14 = .ok (.iconst 0, 1) := by decide +kernel
theorem dX4_init_15 : decode cX4_init 15 = .ok (.putfield 15, 3) := by decide +kernel
theorem dX4_init_18 : decode cX4_init 18 = .ok (.aload_n 0, 1) := by decide +kernel
theorem dX4_init_19 : decode cX4_init 19 = .ok (.iconst 0, 1) := by decide +kernel
theorem dX4_init_20 : decode cX4_init 20 = .ok (.putfield 19, 3) := by decide +kernel
theorem dX4_init_23 : decode cX4_init 23 = .ok (.iconst 0, 1) := by decide +kernel
theorem dX4_init_24 : decode cX4_init 24 = .ok (.istore_n 1, 1) := by decide +kernel
theorem dX4_init_25 : decode cX4_init 25 = .ok (.iload_n 1, 1) := by decide +kernel
theorem dX4_init_26 : decode cX4_init 26 = .ok (.bipush 20, 2) := by decide +kernel
theorem dX4_init_28 : decode cX4_init 28 = .ok (.if_icmp .ge 22, 3) := by decide +kernel
theorem dX4_init_31 : decode cX4_init 31 = .ok (.aload_n 0, 1) := by decide +kernel
theorem dX4_init_32 : decode cX4_init 32 = .ok (.getfield 11, 3) := by decide +kernel
theorem dX4_init_35 : decode cX4_init 35 = .ok (.iload_n 1, 1) := by decide +kernel
theorem dX4_init_36 : decode cX4_init 36 = .ok (.new 9, 3) := by decide +kernel
theorem dX4_init_39 : decode cX4_init 39 = .ok (.dup, 1) := by decide +kernel
theorem dX4_init_40 : decode cX4_init 40 = .ok (.invokespecial 22, 3) := by decide +kernel
theorem dX4_init_43 : decode cX4_init 43 = .ok (.aastore, 1) := by decide +kernel
theorem dX4_init_44 : decode cX4_init 44 = .ok (.iinc 1 1, 3) := by decide +kernel
theorem dX4_init_47 : decode cX4_init 47 = .ok (.goto (-22), 3) := by decide +kernel
theorem dX4_init_50 : decode cX4_init 50 = .ok (.return_, 1) := by decide +kernel
theorem dX4_add_0 : decode cX4_add 0 = .ok (.aload_n 0, 1) := by decide +kernel
theorem dX4_add_1 : decode cX4_add 1 = .ok (.getfield 11, 3) := by decide +kernel
theorem dX4_add_4 : decode cX4_add 4 = .ok (.aload_n 0, 1) := by decide +kernel
theorem dX4_add_5 : decode cX4_add 5 = .ok (.getfield 15, 3) := by decide +kernel
theorem dX4_add_8 : decode cX4_add 8 = .ok (.aaload, 1) := by decide +kernel
theorem dX4_add_9 : decode cX4_add 9 = .ok (.aload_n 1, 1) := by decide +kernel
theorem dX4_add_10 : decode cX4_add 10 = .ok (.invokevirtual 23, 3) := by decide +kernel
theorem dX4_add_13 : decode cX4_add 13 = .ok (.aload_n 0, 1) := by decide +kernel
theorem dX4_add_14 : decode cX4_add 14 = .ok (.aload_n 0, 1) := by decide +kernel
theorem dX4_add_15 : decode cX4_add 15 = .ok (.getfield 15, 3) := by decide +kernel
theorem dX4_add_18 : decode cX4_add 18 = .ok (.iconst 1, 1) := by decide +kernel
theorem dX4_add_19 : decode cX4_add 19 = .ok (.iadd, 1) := by decide +kernel
theorem dX4_add_20 : decode cX4_add 20 = .ok (.bipush 20, 2) := by decide +kernel
theorem dX4_add_22 : decode cX4_add 22 = .ok (.irem, 1) := by decide +kernel
theorem dX4_add_23 : decode cX4_add 23 = .ok (.putfield 15, 3) := by decide +kernel
theorem dX4_add_26 : decode cX4_add 26 = .ok (.aload_n 0, 1) := by decide +kernel
theorem dX4_add_27 : decode cX4_add 27 = .ok (.aload_n 0, 1) := by decide +kernel
theorem dX4_add_28 : decode cX4_add 28 = .ok (.getfield 19, 3) := by decide +kernel
theorem dX4_add_31 : decode cX4_add 31 = .ok (.bipush 20, 2) := by decide +kernel
theorem dX4_add_33 : decode cX4_add 33 = .ok (.if_icmp .ge 12, 3) := by decide +kernel
theorem dX4_add_36 : decode cX4_add 36 = .ok (.aload_n 0, 1) := by decide +kernel
theorem dX4_add_37 : decode cX4_add 37 = .ok (.getfield 19, 3) := by decide +kernel
theorem dX4_add_40 : decode cX4_add 40 = .ok (.iconst 1, 1) := by decide +kernel
theorem dX4_add_41 : decode cX4_add 41 = .ok (.iadd, 1) := by decide +kernel
theorem dX4_add_42 : decode cX4_add 42 = .ok (.goto 5, 3) := by decide +kernel
theorem dX4_add_45 : decode cX4_add 45 = .ok (.bipush 20, 2) := by decide +kernel
theorem dX4_add_47 : decode cX4_add 47 = .ok (.putfield 19, 3) := by decide +kernel
theorem dX4_add_50 : decode cX4_add 50 = .ok (.return_, 1) := by decide +kernel
theorem dX4_takeBack_0 : decode cX4_takeBack 0 = .ok (.aload_n 0, 1) := by decide +kernel
theorem dX4_takeBack_1 : decode cX4_takeBack 1 = .ok (.getfield 19, 3) := by decide +kernel
theorem dX4_takeBack_4 : decode cX4_takeBack 4 = .ok (.ifCond .le 42, 3) := by decide +kernel
theorem dX4_takeBack_7 : decode cX4_takeBack 7 = .ok (.aload_n 0, 1) := by decide +kernel
theorem dX4_takeBack_8 : decode cX4_takeBack 8 = .ok (.aload_n 0, 1) := by decide +kernel
theorem dX4_takeBack_9 : decode cX4_takeBack 9 = .ok (.getfield 15, 3) := by decide +kernel
theorem dX4_takeBack_12 : decode cX4_takeBack 12 = .ok (.bipush 20, 2) := by decide +kernel
theorem dX4_takeBack_14 : decode cX4_takeBack 14 = .ok (.iadd, 1) := by decide +kernel
theorem dX4_takeBack_15 : decode cX4_takeBack 15 = .ok (.iconst 1, 1) := by decide +kernel
theorem dX4_takeBack_16 : decode cX4_takeBack 16 = .ok (.isub, 1) := by decide +kernel
theorem dX4_takeBack_17 : decode cX4_takeBack 17 = .ok (.bipush 20, 2) := by decide +kernel
theorem dX4_takeBack_19 : decode cX4_takeBack 19 = .ok (.irem, 1) := by decide +kernel
theorem dX4_takeBack_20 : decode cX4_takeBack 20 = .ok (.putfield 15, 3) := by decide +kernel
theorem dX4_takeBack_23 : decode cX4_takeBack 23 = .ok (.aload_n 1, 1) := by decide +kernel
theorem dX4_takeBack_24 : decode cX4_takeBack 24 = .ok (.aload_n 0, 1) := by decide +kernel
theorem dX4_takeBack_25 : decode cX4_takeBack 25 = .ok (.getfield 11, 3) := by decide +kernel
theorem dX4_takeBack_28 : decode cX4_takeBack 28 = .ok (.aload_n 0, 1) := by decide +kernel
theorem dX4_takeBack_29 : decode cX4_takeBack 29 = .ok (.getfield 15, 3) := by decide +kernel
theorem dX4_takeBack_32 : decode cX4_takeBack 32 = .ok (.aaload, 1) := by decide +kernel
theorem dX4_takeBack_33 : decode cX4_takeBack 33 = .ok (.invokevirtual 23, 3) := by decide +kernel
theorem dX4_takeBack_36 : decode cX4_takeBack 36 = .ok (.aload_n 0, 1) := by decide +kernel
theorem dX4_takeBack_37 : decode cX4_takeBack 37 = .ok (.dup, 1) := by decide +kernel
theorem dX4_takeBack_38 : decode cX4_takeBack 38 = .ok (.getfield 19, 3) := by decide +kernel
theorem dX4_takeBack_41 : decode cX4_takeBack 41 = .ok (.iconst 1, 1) := by decide +kernel
theorem dX4_takeBack_42 : decode cX4_takeBack 42 = .ok (.isub, 1) := by decide +kernel
theorem dX4_takeBack_43 : decode cX4_takeBack 43 = .ok (.putfield 19, 3) := by decide +kernel
theorem dX4_takeBack_46 : decode cX4_takeBack 46 = .ok (.return_, 1) := by decide +kernel
theorem dX5_init_0 : decode cX5_init 0 = .ok (.aload_n 0, 1) := by decide +kernel
theorem dX5_init_1 : decode cX5_init 1 = .ok (.invokespecial 3, 3) := by decide +kernel
theorem dX5_init_4 : decode cX5_init 4 = .ok (.aload_n 0, 1) := by decide +kernel
theorem dX5_init_5 : decode cX5_init 5 = .ok (.bipush 23, 2) := by decide +kernel
theorem dX5_init_7 : decode cX5_init 7 = .ok (.newarray .int, 2) := by decide +kernel
theorem dX5_init_9 : decode cX5_init 9 = .ok (.putfield 9, 3) := by decide +kernel
theorem dX5_init_12 : decode cX5_init 12 = .ok (.aload_n 0, 1) := by decide +kernel
theorem dX5_init_13 : decode cX5_init 13 = .ok (.iconst 0, 1) := by decide +kernel
theorem dX5_init_14 : decode cX5_init 14 = .ok (.putfield 15, 3) := by decide +kernel
theorem dX5_init_17 : decode cX5_init 17 = .ok (.return_, 1) := by decide +kernel
theorem dX5_write_0 : decode cX5_write 0 = .ok (.aload_n 0, 1) := by decide +kernel
theorem dX5_write_1 : decode cX5_write 1 = .ok (.iconst 0, 1) := by decide +kernel
theorem dX5_write_2 : decode cX5_write 2 = .ok (.putfield 15, 3) := by decide +kernel
theorem dX5_write_5 : decode cX5_write 5 = .ok (.aload_n 0, 1) := by decide +kernel
theorem dX5_write_6 : decode cX5_write 6 = .ok (.aload_n 2, 1) := by decide +kernel
theorem dX5_write_7 : decode cX5_write 7 = .ok (.getfield 19, 3) := by decide +kernel
theorem dX5_write_10 : decode cX5_write 10 = .ok (.sipush 256, 3) := by decide +kernel
theorem dX5_write_13 : decode cX5_write 13 = .ok (.idiv, 1) := by decide +kernel
theorem dX5_write_14 : decode cX5_write 14 = .ok (.invokevirtual 24, 3) := by decide +kernel
theorem dX5_write_17 : decode cX5_write 17 = .ok (.aload_n 0, 1) := by decide +kernel
theorem dX5_write_18 : decode cX5_write 18 = .ok (.aload_n 2, 1) := by decide +kernel
theorem dX5_write_19 : decode cX5_write 19 = .ok (.getfield 19, 3) := by decide +kernel
theorem dX5_write_22 : decode cX5_write 22 = .ok (.sipush 256, 3) := by decide +kernel
theorem dX5_write_25 : decode cX5_write 25 = .ok (.irem, 1) := by decide +kernel
theorem dX5_write_26 : decode cX5_write 26 = .ok (.invokevirtual 24, 3) := by decide +kernel
theorem dX5_write_29 : decode cX5_write 29 = .ok (.aload_n 0, 1) := by decide +kernel
theorem dX5_write_30 : decode cX5_write 30 = .ok (.aload_n 2, 1) := by decide +kernel
theorem dX5_write_31 : decode cX5_write 31 = .ok (.getfield 28, 3) := by decide +kernel
theorem dX5_write_34 : decode cX5_write 34 = .ok (.sipush 256, 3) := by decide +kernel
theorem dX5_write_37 : decode cX5_write 37 = .ok (.idiv, 1) := by decide +kernel
theorem dX5_write_38 : decode cX5_write 38 = .ok (.invokevirtual 24, 3) := by decide +kernel
theorem dX5_write_41 : decode cX5_write 41 = .ok (.aload_n 0, 1) := by decide +kernel
theorem dX5_write_42 : decode cX5_write 42 = .ok (.aload_n 2, 1) := by decide +kernel
theorem dX5_write_43 : decode cX5_write 43 = .ok (.getfield 28, 3) := by decide +kernel
theorem dX5_write_46 : decode cX5_write 46 = .ok (.sipush 256, 3) := by decide +kernel
theorem dX5_write_49 : decode cX5_write 49 = .ok (.irem, 1) := by decide +kernel
theorem dX5_write_50 : decode cX5_write 50 = .ok (.invokevirtual 24, 3) := by decide +kernel
theorem dX5_write_53 : decode cX5_write 53 = .ok (.aload_n 1, 1) := by decide +kernel
theorem dX5_write_54 : decode cX5_write 54 = .ok (.getfield 31, 3) := by decide +kernel
theorem dX5_write_57 : decode cX5_write 57 = .ok (.iconst 0, 1) := by decide +kernel
theorem dX5_write_58 : decode cX5_write 58 = .ok (.iaload, 1) := by decide +kernel
theorem dX5_write_59 : decode cX5_write 59 = .ok (.istore_n 3, 1) := by decide +kernel
theorem dX5_write_60 : decode cX5_write 60 = .ok (.iconst 0, 1) := by decide +kernel
theorem dX5_write_61 : decode cX5_write 61 = .ok (.istore 4, 2) := by decide +kernel
theorem dX5_write_63 : decode cX5_write 63 = .ok (.iload 4, 2) := by decide +kernel
theorem dX5_write_65 : decode cX5_write 65 = .ok (.iload_n 3, 1) := by decide +kernel
theorem dX5_write_66 : decode cX5_write 66 = .ok (.if_icmp .ge 20, 3) := by decide +kernel
theorem dX5_write_69 : decode cX5_write 69 = .ok (.aload_n 0, 1) := by decide +kernel
theorem dX5_write_70 : decode cX5_write 70 = .ok (.aload_n 2, 1) := by decide +kernel
theorem dX5_write_71 : decode cX5_write 71 = .ok (.getfield 36, 3) := by decide +kernel
theorem dX5_write_74 : decode cX5_write 74 = .ok (.iload 4, 2) := by decide +kernel
theorem dX5_write_76 : decode cX5_write 76 = .ok (.iaload, 1) := by decide +kernel
theorem dX5_write_77 : decode cX5_write 77 = .ok (.invokevirtual 24, 3) := by decide +kernel
theorem dX5_write_80 : decode cX5_write 80 = .ok (.iinc 4 1, 3) := by decide +kernel
theorem dX5_write_83 : decode cX5_write 83 = .ok (.goto (-20), 3) := by decide +kernel
theorem dX5_write_86 : decode cX5_write 86 = .ok (.iconst 0, 1) := by decide +kernel
theorem dX5_write_87 : decode cX5_write 87 = .ok (.istore 4, 2) := by decide +kernel
theorem dX5_write_89 : decode cX5_write 89 = .ok (.iload 4, 2) := by decide +kernel
theorem dX5_write_91 : decode cX5_write 91 = .ok (.iload_n 3, 1) := by decide +kernel
theorem dX5_write_92 : decode cX5_write 92 = .ok (.if_icmp .ge 20, 3) := by decide +kernel
theorem dX5_write_95 : decode cX5_write 95 = .ok (.aload_n 0, 1) := by decide +kernel
theorem dX5_write_96 : decode cX5_write 96 = .ok (.aload_n 2, 1) := by decide +kernel
theorem dX5_write_97 : decode cX5_write 97 = .ok (.getfield 39, 3) := by decide +kernel
theorem dX5_write_100 : decode cX5_write 100 = .ok (.iload 4, 2) := by decide +kernel
theorem dX5_write_102 : decode cX5_write 102 = .ok (.iaload, 1) := by decide +kernel
theorem dX5_write_103 : decode cX5_write 103 = .ok (.invokevirtual 24, 3) := by decide +kernel
theorem dX5_write_106 : decode cX5_write 106 = .ok (.iinc 4 1, 3) := by decide +kernel
theorem dX5_write_109 : decode cX5_write 109 = .ok (.goto (-20), 3) := by decide +kernel
theorem dX5_write_112 : decode cX5_write 112 = .ok (.iconst 0, 1) := by decide +kernel
theorem dX5_write_113 : decode cX5_write 113 = .ok (.istore 4, 2) := by decide +kernel
theorem dX5_write_115 : decode cX5_write 115 = .ok (.iload 4, 2) := by decide +kernel
theorem dX5_write_117 : decode cX5_write 117 = .ok (.aload_n 1, 1) := by decide +kernel
theorem dX5_write_118 : decode cX5_write 118 = .ok (.getfield 31, 3) := by decide +kernel
theorem dX5_write_121 : decode cX5_write 121 = .ok (.iconst 2, 1) := by decide +kernel
theorem dX5_write_122 : decode cX5_write 122 = .ok (.iaload, 1) := by decide +kernel
theorem dX5_write_123 : decode cX5_write 123 = .ok (.if_icmp .ge 37, 3) := by decide +kernel
theorem dX5_write_126 : decode cX5_write 126 = .ok (.aload_n 0, 1) := by decide +kernel
theorem dX5_write_127 : decode cX5_write 127 = .ok (.aload_n 2, 1) := by decide +kernel
theorem dX5_write_128 : decode cX5_write 128 = .ok (.getfield 42, 3) := by decide +kernel
theorem dX5_write_131 : decode cX5_write 131 = .ok (.iload 4, 2) := by decide +kernel
theorem dX5_write_133 : decode cX5_write 133 = .ok (.iaload, 1) := by decide +kernel
theorem dX5_write_134 : decode cX5_write 134 = .ok (.iconst (-1), 1) := by decide +kernel
theorem dX5_write_135 : decode cX5_write 135 = .ok (.if_icmp .ne 9, 3) := by decide +kernel
theorem dX5_write_138 : decode cX5_write 138 = .ok (.sipush 255, 3) := by decide +kernel
theorem dX5_write_141 : decode cX5_write 141 = .ok (.goto 10, 3) := by decide +kernel
theorem dX5_write_144 : decode cX5_write 144 = .ok (.aload_n 2, 1) := by decide +kernel
theorem dX5_write_145 : decode cX5_write 145 = .ok (.getfield 42, 3) := by decide +kernel
theorem dX5_write_148 : decode cX5_write 148 = .ok (.iload 4, 2) := by decide +kernel
theorem dX5_write_150 : decode cX5_write 150 = .ok (.iaload, 1) := by decide +kernel
theorem dX5_write_151 : decode cX5_write 151 = .ok (.invokevirtual 24, 3) := by decide +kernel
theorem dX5_write_154 : decode cX5_write 154 = .ok (.iinc 4 1, 3) := by decide +kernel
theorem dX5_write_157 : decode cX5_write 157 = .ok (.goto (-42), 3) := by decide +kernel
theorem dX5_write_160 : decode cX5_write 160 = .ok (.sipush 229, 3) := by decide +kernel
theorem dX5_write_163 : decode cX5_write 163 = .ok (.istore 4, 2) := by decide +kernel
theorem dX5_write_165 : decode cX5_write 165 = .ok (.iconst 0, 1) := by decide +kernel
theorem dX5_write_166 : decode cX5_write 166 = .ok (.istore 5, 2) := by decide +kernel
theorem dX5_write_168 : decode cX5_write 168 = .ok (.iload 5, 2) := by decide +kernel
theorem dX5_write_170 : decode cX5_write 170 = .ok (.aload_n 0, 1) := by decide +kernel
theorem dX5_write_171 : decode cX5_write 171 = .ok (.getfield 15, 3) := by decide +kernel
theorem dX5_write_174 : decode cX5_write 174 = .ok (.if_icmp .ge 27, 3) := by decide +kernel
theorem dX5_write_177 : decode cX5_write 177 = .ok (.iconst 5, 1) := by decide +kernel
theorem dX5_write_178 : decode cX5_write 178 = .ok (.iload 4, 2) := by decide +kernel
theorem dX5_write_180 : decode cX5_write 180 = .ok (.imul, 1) := by decide +kernel
theorem dX5_write_181 : decode cX5_write 181 = .ok (.aload_n 0, 1) := by decide +kernel
theorem dX5_write_182 : decode cX5_write 182 = .ok (.getfield 9, 3) := by decide +kernel
theorem dX5_write_185 : decode cX5_write 185 = .ok (.iload 5, 2) := by decide +kernel
theorem dX5_write_187 : decode cX5_write 187 = .ok (.iaload, 1) := by decide +kernel
theorem dX5_write_188 : decode cX5_write 188 = .ok (.iadd, 1) := by decide +kernel
theorem dX5_write_189 : decode cX5_write 189 = .ok (.sipush 251, 3) := by decide +kernel
theorem dX5_write_192 : decode cX5_write 192 = .ok (.irem, 1) := by decide +kernel
theorem dX5_write_193 : decode cX5_write 193 = .ok (.istore 4, 2) := by decide +kernel
theorem dX5_write_195 : decode cX5_write 195 = .ok (.iinc 5 1, 3) := by decide +kernel
theorem dX5_write_198 : decode cX5_write 198 = .ok (.goto (-30), 3) := by decide +kernel
theorem dX5_write_201 : decode cX5_write 201 = .ok (.aload_n 0, 1) := by decide +kernel
theorem dX5_write_202 : decode cX5_write 202 = .ok (.iload 4, 2) := by decide +kernel
theorem dX5_write_204 : decode cX5_write 204 = .ok (.invokevirtual 24, 3) := by decide +kernel
theorem dX5_write_207 : decode cX5_write 207 = .ok (.return_, 1) := by decide +kernel
theorem dX5_add_0 : decode cX5_add 0 = .ok (.aload_n 0, 1) := by decide +kernel
theorem dX5_add_1 : decode cX5_add 1 = .ok (.getfield 15, 3) := by decide +kernel
theorem dX5_add_4 : decode cX5_add 4 = .ok (.aload_n 0, 1) := by decide +kernel
theorem dX5_add_5 : decode cX5_add 5 = .ok (.getfield 9, 3) := by decide +kernel
theorem dX5_add_8 : decode cX5_add 8 = .ok (.arraylength, 1) := by decide +kernel
theorem dX5_add_9 : decode cX5_add 9 = .ok (.if_icmp .ge 23, 3) := by decide +kernel
theorem dX5_add_12 : decode cX5_add 12 = .ok (.aload_n 0, 1) := by decide +kernel
theorem dX5_add_13 : decode cX5_add 13 = .ok (.getfield 9, 3) := by decide +kernel
theorem dX5_add_16 : decode cX5_add 16 = .ok (.aload_n 0, 1) := by decide +kernel
theorem dX5_add_17 : decode cX5_add 17 = .ok (.getfield 15, 3) := by decide +kernel
theorem dX5_add_20 : decode cX5_add 20 = .ok (.iload_n 1, 1) := by decide +kernel
theorem dX5_add_21 : decode cX5_add 21 = .ok (.iastore, 1) := by decide +kernel
theorem dX5_add_22 : decode cX5_add 22 = .ok (.aload_n 0, 1) := by decide +kernel
theorem dX5_add_23 : decode cX5_add 23 = .ok (.dup, 1) := by decide +kernel
theorem dX5_add_24 : decode cX5_add 24 = .ok (.getfield 15, 3) := by decide +kernel
theorem dX5_add_27 : decode cX5_add 27 = .ok (.iconst 1, 1) := by decide +kernel
theorem dX5_add_28 : decode cX5_add 28 = .ok (.iadd, 1) := by decide +kernel
theorem dX5_add_29 : decode cX5_add 29 = .ok (.putfield 15, 3) := by decide +kernel
theorem dX5_add_32 : decode cX5_add 32 = .ok (.return_, 1) := by decide +kernel
theorem dX5_byteAt_0 : decode cX5_byteAt 0 = .ok (.iload_n 1, 1) := by decide +kernel
theorem dX5_byteAt_1 : decode cX5_byteAt 1 = .ok (.ifCond .lt 29, 3) := by decide +kernel
theorem dX5_byteAt_4 : decode cX5_byteAt 4 = .ok (.iload_n 1, 1) := by decide +kernel
theorem dX5_byteAt_5 : decode cX5_byteAt 5 = .ok (.aload_n 0, 1) := by decide +kernel
theorem dX5_byteAt_6 : decode cX5_byteAt 6 = .ok (.getfield 15, 3) := by decide +kernel
theorem dX5_byteAt_9 : decode cX5_byteAt 9 = .ok (.if_icmp .ge 21, 3) := by decide +kernel
theorem dX5_byteAt_12 : decode cX5_byteAt 12 = .ok (.iload_n 1, 1) := by decide +kernel
theorem dX5_byteAt_13 : decode cX5_byteAt 13 = .ok (.aload_n 0, 1) := by decide +kernel
theorem dX5_byteAt_14 : decode cX5_byteAt 14 = .ok (.getfield 9, 3) := by decide +kernel
theorem dX5_byteAt_17 : decode cX5_byteAt 17 = .ok (.arraylength, 1) := by decide +kernel
theorem dX5_byteAt_18 : decode cX5_byteAt 18 = .ok (.if_icmp .ge 12, 3) := by decide +kernel
theorem dX5_byteAt_21 : decode cX5_byteAt 21 = .ok (.aload_n 0, 1) := by decide +kernel
theorem dX5_byteAt_22 : decode cX5_byteAt 22 = .ok (.getfield 9, 3) := by decide +kernel
theorem dX5_byteAt_25 : decode cX5_byteAt 25 = .ok (.iload_n 1, 1) := by decide +kernel
theorem dX5_byteAt_26 : decode cX5_byteAt 26 = .ok (.iaload, 1) := by decide +kernel
theorem dX5_byteAt_27 : decode cX5_byteAt 27 = .ok (.goto 4, 3) := by decide +kernel
theorem dX5_byteAt_30 : decode cX5_byteAt 30 = .ok (.iconst (-1), 1) := by decide +kernel
theorem dX5_byteAt_31 : decode cX5_byteAt 31 = .ok (.ireturn, 1) := by decide +kernel
theorem dX5_fits_0 : decode cX5_fits 0 = .ok (.aload_n 1, 1) := by decide +kernel
theorem dX5_fits_1 : decode cX5_fits 1 = .ok (.getfield 31, 3) := by decide +kernel
theorem dX5_fits_4 : decode cX5_fits 4 = .ok (.iconst 0, 1) := by decide +kernel
theorem dX5_fits_5 : decode cX5_fits 5 = .ok (.iaload, 1) := by decide +kernel
theorem dX5_fits_6 : decode cX5_fits 6 = .ok (.istore_n 2, 1) := by decide +kernel
theorem dX5_fits_7 : decode cX5_fits 7 = .ok (.aload_n 1, 1) := by decide +kernel
theorem dX5_fits_8 : decode cX5_fits 8 = .ok (.getfield 31, 3) := by decide +kernel
theorem dX5_fits_11 : decode cX5_fits 11 = .ok (.iconst 2, 1) := by decide +kernel
theorem dX5_fits_12 : decode cX5_fits 12 = .ok (.iaload, 1) := by decide +kernel
theorem dX5_fits_13 : decode cX5_fits 13 = .ok (.istore_n 3, 1) := by decide +kernel
theorem dX5_fits_14 : decode cX5_fits 14 = .ok (.aload_n 0, 1) := by decide +kernel
theorem dX5_fits_15 : decode cX5_fits 15 = .ok (.getfield 45, 3) := by decide +kernel
theorem dX5_fits_18 : decode cX5_fits 18 = .ok (.iconst 5, 1) := by decide +kernel
theorem dX5_fits_19 : decode cX5_fits 19 = .ok (.iconst 2, 1) := by decide +kernel
theorem dX5_fits_20 : decode cX5_fits 20 = .ok (.iload_n 2, 1) := by decide +kernel
theorem dX5_fits_21 : decode cX5_fits 21 = .ok (.imul, 1) := by decide +kernel
theorem dX5_fits_22 : decode cX5_fits 22 = .ok (.iadd, 1) := by decide +kernel
theorem dX5_fits_23 : decode cX5_fits 23 = .ok (.iload_n 3, 1) := by decide +kernel
theorem dX5_fits_24 : decode cX5_fits 24 = .ok (.iadd, 1) := by decide +kernel
theorem dX5_fits_25 : decode cX5_fits 25 = .ok (.if_icmp .ne 32, 3) := by decide +kernel
theorem dX5_fits_28 : decode cX5_fits 28 = .ok (.aload_n 0, 1) := by decide +kernel
theorem dX5_fits_29 : decode cX5_fits 29 = .ok (.invokestatic 48, 3) := by decide +kernel
theorem dX5_fits_32 : decode cX5_fits 32 = .ok (.ifCond .eq 25, 3) := by decide +kernel
theorem dX5_fits_35 : decode cX5_fits 35 = .ok (.aload_n 0, 1) := by decide +kernel
theorem dX5_fits_36 : decode cX5_fits 36 = .ok (.iconst 0, 1) := by decide +kernel
theorem dX5_fits_37 : decode cX5_fits 37 = .ok (.invokestatic 52, 3) := by decide +kernel
theorem dX5_fits_40 : decode cX5_fits 40 = .ok (.sipush 999, 3) := by decide +kernel
theorem dX5_fits_43 : decode cX5_fits 43 = .ok (.if_icmp .gt 14, 3) := by decide +kernel
theorem dX5_fits_46 : decode cX5_fits 46 = .ok (.aload_n 0, 1) := by decide +kernel
theorem dX5_fits_47 : decode cX5_fits 47 = .ok (.iconst 2, 1) := by decide +kernel
theorem dX5_fits_48 : decode cX5_fits 48 = .ok (.invokestatic 52, 3) := by decide +kernel
theorem dX5_fits_51 : decode cX5_fits 51 = .ok (.sipush 9999, 3) := by decide +kernel
theorem dX5_fits_54 : decode cX5_fits 54 = .ok (.if_icmp .le 5, 3) := by decide +kernel
theorem dX5_fits_57 : decode cX5_fits 57 = .ok (.iconst 0, 1) := by decide +kernel
theorem dX5_fits_58 : decode cX5_fits 58 = .ok (.ireturn, 1) := by decide +kernel
theorem dX5_fits_59 : decode cX5_fits 59 = .ok (.iconst 0, 1) := by decide +kernel
theorem dX5_fits_60 : decode cX5_fits 60 = .ok (.istore 4, 2) := by decide +kernel
theorem dX5_fits_62 : decode cX5_fits 62 = .ok (.iconst 0, 1) := by decide +kernel
theorem dX5_fits_63 : decode cX5_fits 63 = .ok (.istore 5, 2) := by decide +kernel
theorem dX5_fits_65 : decode cX5_fits 65 = .ok (.iload 5, 2) := by decide +kernel
theorem dX5_fits_67 : decode cX5_fits 67 = .ok (.iload_n 2, 1) := by decide +kernel
theorem dX5_fits_68 : decode cX5_fits 68 = .ok (.if_icmp .ge 55, 3) := by decide +kernel
theorem dX5_fits_71 : decode cX5_fits 71 = .ok (.aload_n 0, 1) := by decide +kernel
theorem dX5_fits_72 : decode cX5_fits 72 = .ok (.iconst 4, 1) := by decide +kernel
theorem dX5_fits_73 : decode cX5_fits 73 = .ok (.iload 5, 2) := by decide +kernel
theorem dX5_fits_75 : decode cX5_fits 75 = .ok (.iadd, 1) := by decide +kernel
theorem dX5_fits_76 : decode cX5_fits 76 = .ok (.invokevirtual 56, 3) := by decide +kernel
theorem dX5_fits_79 : decode cX5_fits 79 = .ok (.istore 6, 2) := by decide +kernel
theorem dX5_fits_81 : decode cX5_fits 81 = .ok (.aload_n 1, 1) := by decide +kernel
theorem dX5_fits_82 : decode cX5_fits 82 = .ok (.iconst 0, 1) := by decide +kernel
theorem dX5_fits_83 : decode cX5_fits 83 = .ok (.iload 6, 2) := by decide +kernel
theorem dX5_fits_85 : decode cX5_fits 85 = .ok (.invokevirtual 60, 3) := by decide +kernel
theorem dX5_fits_88 : decode cX5_fits 88 = .ok (.ifCond .eq 18, 3) := by decide +kernel
theorem dX5_fits_91 : decode cX5_fits 91 = .ok (.aload_n 0, 1) := by decide +kernel
theorem dX5_fits_92 : decode cX5_fits 92 = .ok (.iconst 4, 1) := by decide +kernel
theorem dX5_fits_93 : decode cX5_fits 93 = .ok (.iload_n 2, 1) := by decide +kernel
theorem dX5_fits_94 : decode cX5_fits 94 = .ok (.iadd, 1) := by decide +kernel
theorem dX5_fits_95 : decode cX5_fits 95 = .ok (.iload 5, 2) := by decide +kernel
theorem dX5_fits_97 : decode cX5_fits 97 = .ok (.iadd, 1) := by decide +kernel
theorem dX5_fits_98 : decode cX5_fits 98 = .ok (.invokevirtual 56, 3) := by decide +kernel
theorem dX5_fits_101 : decode cX5_fits 101 = .ok (.bipush 9, 2) := by decide +kernel
theorem dX5_fits_103 : decode cX5_fits 103 = .ok (.if_icmp .le 5, 3) := by decide +kernel
theorem dX5_fits_106 : decode cX5_fits 106 = .ok (.iconst 0, 1) := by decide +kernel
theorem dX5_fits_107 : decode cX5_fits 107 = .ok (.ireturn, 1) := by decide +kernel
theorem dX5_fits_108 : decode cX5_fits 108 = .ok (.iload 4, 2) := by decide +kernel
theorem dX5_fits_110 : decode cX5_fits 110 = .ok (.iconst 1, 1) := by decide +kernel
theorem dX5_fits_111 : decode cX5_fits 111 = .ok (.iload 6, 2) := by decide +kernel
theorem dX5_fits_113 : decode cX5_fits 113 = .ok (.ishl, 1) := by decide +kernel
theorem dX5_fits_114 : decode cX5_fits 114 = .ok (.ior, 1) := by decide +kernel
theorem dX5_fits_115 : decode cX5_fits 115 = .ok (.istore 4, 2) := by decide +kernel
theorem dX5_fits_117 : decode cX5_fits 117 = .ok (.iinc 5 1, 3) := by decide +kernel
theorem dX5_fits_120 : decode cX5_fits 120 = .ok (.goto (-55), 3) := by decide +kernel
theorem dX5_fits_123 : decode cX5_fits 123 = .ok (.iconst 0, 1) := by decide +kernel
theorem dX5_fits_124 : decode cX5_fits 124 = .ok (.istore 5, 2) := by decide +kernel
theorem dX5_fits_126 : decode cX5_fits 126 = .ok (.iload 5, 2) := by decide +kernel
theorem dX5_fits_128 : decode cX5_fits 128 = .ok (.iload_n 3, 1) := by decide +kernel
theorem dX5_fits_129 : decode cX5_fits 129 = .ok (.if_icmp .ge 43, 3) := by decide +kernel
theorem dX5_fits_132 : decode cX5_fits 132 = .ok (.aload_n 0, 1) := by decide +kernel
theorem dX5_fits_133 : decode cX5_fits 133 = .ok (.iconst 4, 1) := by decide +kernel
theorem dX5_fits_134 : decode cX5_fits 134 = .ok (.iconst 2, 1) := by decide +kernel
theorem dX5_fits_135 : decode cX5_fits 135 = .ok (.iload_n 2, 1) := by decide +kernel
theorem dX5_fits_136 : decode cX5_fits 136 = .ok (.imul, 1) := by decide +kernel
theorem dX5_fits_137 : decode cX5_fits 137 = .ok (.iadd, 1) := by decide +kernel
theorem dX5_fits_138 : decode cX5_fits 138 = .ok (.iload 5, 2) := by decide +kernel
theorem dX5_fits_140 : decode cX5_fits 140 = .ok (.iadd, 1) := by decide +kernel
theorem dX5_fits_141 : decode cX5_fits 141 = .ok (.invokevirtual 56, 3) := by decide +kernel
theorem dX5_fits_144 : decode cX5_fits 144 = .ok (.istore 6, 2) := by decide +kernel
theorem dX5_fits_146 : decode cX5_fits 146 = .ok (.iload 6, 2) := by decide +kernel
theorem dX5_fits_148 : decode cX5_fits 148 = .ok (.sipush 255, 3) := by decide +kernel
theorem dX5_fits_151 : decode cX5_fits 151 = .ok (.if_icmp .eq 15, 3) := by decide +kernel
theorem dX5_fits_154 : decode cX5_fits 154 = .ok (.aload_n 1, 1) := by decide +kernel
theorem dX5_fits_155 : decode cX5_fits 155 = .ok (.iconst 1, 1) := by decide +kernel
theorem dX5_fits_156 : decode cX5_fits 156 = .ok (.iload 6, 2) := by decide +kernel
theorem dX5_fits_158 : decode cX5_fits 158 = .ok (.invokevirtual 60, 3) := by decide +kernel
theorem dX5_fits_161 : decode cX5_fits 161 = .ok (.ifCond .ne 5, 3) := by decide +kernel
theorem dX5_fits_164 : decode cX5_fits 164 = .ok (.iconst 0, 1) := by decide +kernel
theorem dX5_fits_165 : decode cX5_fits 165 = .ok (.ireturn, 1) := by decide +kernel
theorem dX5_fits_166 : decode cX5_fits 166 = .ok (.iinc 5 1, 3) := by decide +kernel
theorem dX5_fits_169 : decode cX5_fits 169 = .ok (.goto (-43), 3) := by decide +kernel
theorem dX5_fits_172 : decode cX5_fits 172 = .ok (.iload 4, 2) := by decide +kernel
theorem dX5_fits_174 : decode cX5_fits 174 = .ok (.aload_n 1, 1) := by decide +kernel
theorem dX5_fits_175 : decode cX5_fits 175 = .ok (.invokevirtual 64, 3) := by decide +kernel
theorem dX5_fits_178 : decode cX5_fits 178 = .ok (.if_icmp .ne 7, 3) := by decide +kernel
theorem dX5_fits_181 : decode cX5_fits 181 = .ok (.iconst 1, 1) := by decide +kernel
theorem dX5_fits_182 : decode cX5_fits 182 = .ok (.goto 4, 3) := by decide +kernel
theorem dX5_fits_185 : decode cX5_fits 185 = .ok (.iconst 0, 1) := by decide +kernel
theorem dX5_fits_186 : decode cX5_fits 186 = .ok (.ireturn, 1) := by decide +kernel
theorem dX5_isChecked_0 : decode cX5_isChecked 0 = .ok (.sipush 229, 3) := by decide +kernel
theorem dX5_isChecked_3 : decode cX5_isChecked 3 = .ok (.istore_n 1, 1) := by decide +kernel
theorem dX5_isChecked_4 : decode cX5_isChecked 4 = .ok (.iconst 0, 1) := by decide +kernel
theorem dX5_isChecked_5 : decode cX5_isChecked 5 = .ok (.istore_n 2, 1) := by decide +kernel
theorem dX5_isChecked_6 : decode cX5_isChecked 6 = .ok (.iload_n 2, 1) := by decide +kernel
theorem dX5_isChecked_7 : decode cX5_isChecked 7 = .ok (.aload_n 0, 1) := by decide +kernel
theorem dX5_isChecked_8 : decode cX5_isChecked 8 = .ok (.getfield 45, 3) := by decide +kernel
theorem dX5_isChecked_11 : decode cX5_isChecked 11 = .ok (.iconst 1, 1) := by decide +kernel
theorem dX5_isChecked_12 : decode cX5_isChecked 12 = .ok (.isub, 1) := by decide +kernel
theorem dX5_isChecked_13 : decode cX5_isChecked 13 = .ok (.if_icmp .ge 23, 3) := by decide +kernel
theorem dX5_isChecked_16 : decode cX5_isChecked 16 = .ok (.iconst 5, 1) := by decide +kernel
theorem dX5_isChecked_17 : decode cX5_isChecked 17 = .ok (.iload_n 1, 1) := by decide +kernel
theorem dX5_isChecked_18 : decode cX5_isChecked 18 = .ok (.imul, 1) := by decide +kernel
theorem dX5_isChecked_19 : decode cX5_isChecked 19 = .ok (.aload_n 0, 1) := by decide +kernel
theorem dX5_isChecked_20 : decode cX5_isChecked 20 = .ok (.iload_n 2, 1) := by decide +kernel
theorem dX5_isChecked_21 : decode cX5_isChecked 21 = .ok (.invokevirtual 56, 3) := by decide +kernel
theorem dX5_isChecked_24 : decode cX5_isChecked 24 = .ok (.iadd, 1) := by decide +kernel
theorem dX5_isChecked_25 : decode cX5_isChecked 25 = .ok (.sipush 251, 3) := by decide +kernel
theorem dX5_isChecked_28 : decode cX5_isChecked 28 = .ok (.irem, 1) := by decide +kernel
theorem dX5_isChecked_29 : decode cX5_isChecked 29 = .ok (.istore_n 1, 1) := by decide +kernel
theorem dX5_isChecked_30 : decode cX5_isChecked 30 = .ok (.iinc 2 1, 3) := by decide +kernel
theorem dX5_isChecked_33 : decode cX5_isChecked 33 = .ok (.goto (-27), 3) := by decide +kernel
theorem dX5_isChecked_36 : decode cX5_isChecked 36 = .ok (.iload_n 1, 1) := by decide +kernel
theorem dX5_isChecked_37 : decode cX5_isChecked 37 = .ok (.aload_n 0, 1) := by decide +kernel
theorem dX5_isChecked_38 : decode cX5_isChecked 38 = .ok (.aload_n 0, 1) := by decide +kernel
theorem dX5_isChecked_39 : decode cX5_isChecked 39 = .ok (.getfield 45, 3) := by decide +kernel
theorem dX5_isChecked_42 : decode cX5_isChecked 42 = .ok (.iconst 1, 1) := by decide +kernel
theorem dX5_isChecked_43 : decode cX5_isChecked 43 = .ok (.isub, 1) := by decide +kernel
theorem dX5_isChecked_44 : decode cX5_isChecked 44 = .ok (.invokevirtual 56, 3) := by decide +kernel
theorem dX5_isChecked_47 : decode cX5_isChecked 47 = .ok (.if_icmp .ne 7, 3) := by decide +kernel
theorem dX5_isChecked_50 : decode cX5_isChecked 50 = .ok (.iconst 1, 1) := by decide +kernel
theorem dX5_isChecked_51 : decode cX5_isChecked 51 = .ok (.goto 4, 3) := by decide +kernel
theorem dX5_isChecked_54 : decode cX5_isChecked 54 = .ok (.iconst 0, 1) := by decide +kernel
theorem dX5_isChecked_55 : decode cX5_isChecked 55 = .ok (.ireturn, 1) := by decide +kernel
theorem dX5_pairAt_0 : decode cX5_pairAt 0 = .ok (.aload_n 0, 1) := by decide +kernel
theorem dX5_pairAt_1 : decode cX5_pairAt 1 = .ok (.iload_n 1, 1) := by decide +kernel
theorem dX5_pairAt_2 : decode cX5_pairAt 2 = .ok (.invokevirtual 56, 3) := by decide +kernel
theorem dX5_pairAt_5 : decode cX5_pairAt 5 = .ok (.sipush 256, 3) := by decide +kernel
theorem dX5_pairAt_8 : decode cX5_pairAt 8 = .ok (.imul, 1) := by decide +kernel
theorem dX5_pairAt_9 : decode cX5_pairAt 9 = .ok (.aload_n 0, 1) := by decide +kernel
theorem dX5_pairAt_10 : decode cX5_pairAt 10 = .ok (.iload_n 1, 1) := by decide +kernel
theorem dX5_pairAt_11 : decode cX5_pairAt 11 = .ok (.iconst 1, 1) := by decide +kernel
theorem dX5_pairAt_12 : decode cX5_pairAt 12 = .ok (.iadd, 1) := by decide +kernel
theorem dX5_pairAt_13 : decode cX5_pairAt 13 = .ok (.invokevirtual 56, 3) := by decide +kernel
theorem dX5_pairAt_16 : decode cX5_pairAt 16 = .ok (.iadd, 1) := by decide +kernel
theorem dX5_pairAt_17 : decode cX5_pairAt 17 = .ok (.ireturn, 1) := by decide +kernel
theorem dX5_show_0 : decode cX5_show 0 = .ok (.aload_n 1, 1) := by decide +kernel
theorem dX5_show_1 : decode cX5_show 1 = .ok (.getfield 31, 3) := by decide +kernel
theorem dX5_show_4 : decode cX5_show 4 = .ok (.iconst 0, 1) := by decide +kernel
theorem dX5_show_5 : decode cX5_show 5 = .ok (.iaload, 1) := by decide +kernel
theorem dX5_show_6 : decode cX5_show 6 = .ok (.istore_n 3, 1) := by decide +kernel
theorem dX5_show_7 : decode cX5_show 7 = .ok (.aload_n 2, 1) := by decide +kernel
theorem dX5_show_8 : decode cX5_show 8 = .ok (.aload_n 0, 1) := by decide +kernel
theorem dX5_show_9 : decode cX5_show 9 = .ok (.iconst 0, 1) := by decide +kernel
theorem dX5_show_10 : decode cX5_show 10 = .ok (.invokestatic 52, 3) := by decide +kernel
theorem dX5_show_13 : decode cX5_show 13 = .ok (.putfield 19, 3) := by decide +kernel
theorem dX5_show_16 : decode cX5_show 16 = .ok (.aload_n 2, 1) := by decide +kernel
theorem dX5_show_17 : decode cX5_show 17 = .ok (.aload_n 0, 1) := by decide +kernel
theorem dX5_show_18 : decode cX5_show 18 = .ok (.iconst 2, 1) := by decide +kernel
theorem dX5_show_19 : decode cX5_show 19 = .ok (.invokestatic 52, 3) := by decide +kernel
theorem dX5_show_22 : decode cX5_show 22 = .ok (.putfield 28, 3) := by decide +kernel
theorem dX5_show_25 : decode cX5_show 25 = .ok (.aload_n 2, 1) := by decide +kernel
theorem dX5_show_26 : decode cX5_show 26 = .ok (.iconst 0, 1) := by decide +kernel
theorem dX5_show_27 : decode cX5_show 27 = .ok (.putfield 68, 3) := by decide +kernel
theorem dX5_show_30 : decode cX5_show 30 = .ok (.iconst 0, 1) := by decide +kernel
theorem dX5_show_31 : decode cX5_show 31 = .ok (.istore 4, 2) := by decide +kernel
theorem dX5_show_33 : decode cX5_show 33 = .ok (.iload 4, 2) := by decide +kernel
theorem dX5_show_35 : decode cX5_show 35 = .ok (.iload_n 3, 1) := by decide +kernel
theorem dX5_show_36 : decode cX5_show 36 = .ok (.if_icmp .ge 41, 3) := by decide +kernel
theorem dX5_show_39 : decode cX5_show 39 = .ok (.aload_n 2, 1) := by decide +kernel
theorem dX5_show_40 : decode cX5_show 40 = .ok (.getfield 36, 3) := by decide +kernel
theorem dX5_show_43 : decode cX5_show 43 = .ok (.iload 4, 2) := by decide +kernel
theorem dX5_show_45 : decode cX5_show 45 = .ok (.aload_n 0, 1) := by decide +kernel
theorem dX5_show_46 : decode cX5_show 46 = .ok (.iconst 4, 1) := by decide +kernel
theorem dX5_show_47 : decode cX5_show 47 = .ok (.iload 4, 2) := by decide +kernel
theorem dX5_show_49 : decode cX5_show 49 = .ok (.iadd, 1) := by decide +kernel
theorem dX5_show_50 : decode cX5_show 50 = .ok (.invokevirtual 56, 3) := by decide +kernel
theorem dX5_show_53 : decode cX5_show 53 = .ok (.iastore, 1) := by decide +kernel
theorem dX5_show_54 : decode cX5_show 54 = .ok (.aload_n 2, 1) := by decide +kernel
theorem dX5_show_55 : decode cX5_show 55 = .ok (.getfield 39, 3) := by decide +kernel
theorem dX5_show_58 : decode cX5_show 58 = .ok (.iload 4, 2) := by decide +kernel
theorem dX5_show_60 : decode cX5_show 60 = .ok (.aload_n 0, 1) := by decide +kernel
theorem dX5_show_61 : decode cX5_show 61 = .ok (.iconst 4, 1) := by decide +kernel
theorem dX5_show_62 : decode cX5_show 62 = .ok (.iload_n 3, 1) := by decide +kernel
theorem dX5_show_63 : decode cX5_show 63 = .ok (.iadd, 1) := by decide +kernel
theorem dX5_show_64 : decode cX5_show 64 = .ok (.iload 4, 2) := by decide +kernel
theorem dX5_show_66 : decode cX5_show 66 = .ok (.iadd, 1) := by decide +kernel
theorem dX5_show_67 : decode cX5_show 67 = .ok (.invokevirtual 56, 3) := by decide +kernel
theorem dX5_show_70 : decode cX5_show 70 = .ok (.iastore, 1) := by decide +kernel
theorem dX5_show_71 : decode cX5_show 71 = .ok (.iinc 4 1, 3) := by decide +kernel
theorem dX5_show_74 : decode cX5_show 74 = .ok (.goto (-41), 3) := by decide +kernel
theorem dX5_show_77 : decode cX5_show 77 = .ok (.iconst 0, 1) := by decide +kernel
theorem dX5_show_78 : decode cX5_show 78 = .ok (.istore 4, 2) := by decide +kernel
theorem dX5_show_80 : decode cX5_show 80 = .ok (.iload 4, 2) := by decide +kernel
theorem dX5_show_82 : decode cX5_show 82 = .ok (.aload_n 1, 1) := by decide +kernel
theorem dX5_show_83 : decode cX5_show 83 = .ok (.getfield 31, 3) := by decide +kernel
theorem dX5_show_86 : decode cX5_show 86 = .ok (.iconst 2, 1) := by decide +kernel
theorem dX5_show_87 : decode cX5_show 87 = .ok (.iaload, 1) := by decide +kernel
theorem dX5_show_88 : decode cX5_show 88 = .ok (.if_icmp .ge 44, 3) := by decide +kernel
theorem dX5_show_91 : decode cX5_show 91 = .ok (.aload_n 0, 1) := by decide +kernel
theorem dX5_show_92 : decode cX5_show 92 = .ok (.iconst 4, 1) := by decide +kernel
theorem dX5_show_93 : decode cX5_show 93 = .ok (.iconst 2, 1) := by decide +kernel
theorem dX5_show_94 : decode cX5_show 94 = .ok (.iload_n 3, 1) := by decide +kernel
theorem dX5_show_95 : decode cX5_show 95 = .ok (.imul, 1) := by decide +kernel
theorem dX5_show_96 : decode cX5_show 96 = .ok (.iadd, 1) := by decide +kernel
theorem dX5_show_97 : decode cX5_show 97 = .ok (.iload 4, 2) := by decide +kernel
theorem dX5_show_99 : decode cX5_show 99 = .ok (.iadd, 1) := by decide +kernel
theorem dX5_show_100 : decode cX5_show 100 = .ok (.invokevirtual 56, 3) := by decide +kernel
theorem dX5_show_103 : decode cX5_show 103 = .ok (.istore 5, 2) := by decide +kernel
theorem dX5_show_105 : decode cX5_show 105 = .ok (.aload_n 2, 1) := by decide +kernel
theorem dX5_show_106 : decode cX5_show 106 = .ok (.getfield 42, 3) := by decide +kernel
theorem dX5_show_109 : decode cX5_show 109 = .ok (.iload 4, 2) := by decide +kernel
theorem dX5_show_111 : decode cX5_show 111 = .ok (.iload 5, 2) := by decide +kernel
theorem dX5_show_113 : decode cX5_show 113 = .ok (.sipush 255, 3) := by decide +kernel
theorem dX5_show_116 : decode cX5_show 116 = .ok (.if_icmp .ne 7, 3) := by decide +kernel
theorem dX5_show_119 : decode cX5_show 119 = .ok (.iconst (-1), 1) := by decide +kernel
theorem dX5_show_120 : decode cX5_show 120 = .ok (.goto 5, 3) := by decide +kernel
theorem dX5_show_123 : decode cX5_show 123 = .ok (.iload 5, 2) := by decide +kernel
theorem dX5_show_125 : decode cX5_show 125 = .ok (.iastore, 1) := by decide +kernel
theorem dX5_show_126 : decode cX5_show 126 = .ok (.iinc 4 1, 3) := by decide +kernel
theorem dX5_show_129 : decode cX5_show 129 = .ok (.goto (-49), 3) := by decide +kernel
theorem dX5_show_132 : decode cX5_show 132 = .ok (.return_, 1) := by decide +kernel
theorem dX6_init_0 : decode cX6_init 0 = .ok (.aload_n 0, 1) := by decide +kernel
theorem dX6_init_1 : decode cX6_init 1 = .ok (.invokespecial 3, 3) := by decide +kernel
theorem dX6_init_4 : decode cX6_init 4 = .ok (.aload_n 0, 1) := by decide +kernel
theorem dX6_init_5 : decode cX6_init 5 = .ok (.new 9, 3) := by decide +kernel
theorem dX6_init_8 : decode cX6_init 8 = .ok (.dup, 1) := by decide +kernel
theorem dX6_init_9 : decode cX6_init 9 = .ok (.invokespecial 11, 3) := by decide +kernel
theorem dX6_init_12 : decode cX6_init 12 = .ok (.putfield 12, 3) := by decide +kernel
theorem dX6_init_15 : decode cX6_init 15 = .ok (.aload_n 0, 1) := by decide +kernel
theorem dX6_init_16 : decode cX6_init 16 = .ok (.iconst 0, 1) := by decide +kernel
theorem dX6_init_17 : decode cX6_init 17 = .ok (.putfield 18, 3) := by decide +kernel
theorem dX6_init_20 : decode cX6_init 20 = .ok (.aload_n 0, 1) := by decide +kernel
theorem dX6_init_21 : decode cX6_init 21 = .ok (.iconst 0, 1) := by decide +kernel
theorem dX6_init_22 : decode cX6_init 22 = .ok (.putfield 22, 3) := by decide +kernel
theorem dX6_init_25 : decode cX6_init 25 = .ok (.aload_n 0, 1) := by decide +kernel
theorem dX6_init_26 : decode cX6_init 26 = .ok (.iconst 0, 1) := by decide +kernel
theorem dX6_init_27 : decode cX6_init 27 = .ok (.putfield 25, 3) := by decide +kernel
theorem dX6_init_30 : decode cX6_init 30 = .ok (.aload_n 0, 1) := by decide +kernel
theorem dX6_init_31 : decode cX6_init 31 = .ok (.iconst 0, 1) := by decide +kernel
theorem dX6_init_32 : decode cX6_init 32 = .ok (.putfield 28, 3) := by decide +kernel
theorem dX6_init_35 : decode cX6_init 35 = .ok (.aload_n 0, 1) := by decide +kernel
theorem dX6_init_36 : decode cX6_init 36 = .ok (.iconst (-1), 1) := by decide +kernel
theorem dX6_init_37 : decode cX6_init 37 = .ok (.putfield 31, 3) := by decide +kernel
theorem dX6_init_40 : decode cX6_init 40 = .ok (.aload_n 0, 1) := by decide +kernel
theorem dX6_init_41 : decode cX6_init 41 = .ok (.aload_n 1, 1) := by decide +kernel
theorem dX6_init_42 : decode cX6_init 42 = .ok (.putfield 34, 3) := by decide +kernel
theorem dX6_init_45 : decode cX6_init 45 = .ok (.aload_n 0, 1) := by decide +kernel
theorem dX6_init_46 : decode cX6_init 46 = .ok (.aload_n 2, 1) := by decide +kernel
theorem dX6_init_47 : decode cX6_init 47 = .ok (.putfield 38, 3) := by decide +kernel
theorem dX6_init_50 : decode cX6_init 50 = .ok (.return_, 1) := by decide +kernel
theorem dX6_read_0 : decode cX6_read 0 = .ok (.aload_n 0, 1) := by decide +kernel
theorem dX6_read_1 : decode cX6_read 1 = .ok (.aload_n 1, 1) := by decide +kernel
theorem dX6_read_2 : decode cX6_read 2 = .ok (.putfield 38, 3) := by decide +kernel
theorem dX6_read_5 : decode cX6_read 5 = .ok (.aload_n 0, 1) := by decide +kernel
theorem dX6_read_6 : decode cX6_read 6 = .ok (.getfield 38, 3) := by decide +kernel
theorem dX6_read_9 : decode cX6_read 9 = .ok (.invokevirtual 42, 3) := by decide +kernel
theorem dX6_read_12 : decode cX6_read 12 = .ok (.aload_n 0, 1) := by decide +kernel
theorem dX6_read_13 : decode cX6_read 13 = .ok (.iconst 0, 1) := by decide +kernel
theorem dX6_read_14 : decode cX6_read 14 = .ok (.putfield 18, 3) := by decide +kernel
theorem dX6_read_17 : decode cX6_read 17 = .ok (.aload_n 0, 1) := by decide +kernel
theorem dX6_read_18 : decode cX6_read 18 = .ok (.iconst 0, 1) := by decide +kernel
theorem dX6_read_19 : decode cX6_read 19 = .ok (.putfield 25, 3) := by decide +kernel
theorem dX6_read_22 : decode cX6_read 22 = .ok (.aload_n 0, 1) := by decide +kernel
theorem dX6_read_23 : decode cX6_read 23 = .ok (.iconst 0, 1) := by decide +kernel
theorem dX6_read_24 : decode cX6_read 24 = .ok (.putfield 28, 3) := by decide +kernel
theorem dX6_read_27 : decode cX6_read 27 = .ok (.aload_n 0, 1) := by decide +kernel
theorem dX6_read_28 : decode cX6_read 28 = .ok (.iconst (-1), 1) := by decide +kernel
theorem dX6_read_29 : decode cX6_read 29 = .ok (.putfield 31, 3) := by decide +kernel
theorem dX6_read_32 : decode cX6_read 32 = .ok (.aload_n 0, 1) := by decide +kernel
theorem dX6_read_33 : decode cX6_read 33 = .ok (.getfield 12, 3) := by decide +kernel
theorem dX6_read_36 : decode cX6_read 36 = .ok (.aload_n 0, 1) := by decide +kernel
theorem dX6_read_37 : decode cX6_read 37 = .ok (.getfield 34, 3) := by decide +kernel
theorem dX6_read_40 : decode cX6_read 40 = .ok (.invokevirtual 47, 3) := by decide +kernel
theorem dX6_read_43 : decode cX6_read 43 = .ok (.iconst 0, 1) := by decide +kernel
theorem dX6_read_44 : decode cX6_read 44 = .ok (.istore_n 2, 1) := by decide +kernel
theorem dX6_read_45 : decode cX6_read 45 = .ok (.iload_n 2, 1) := by decide +kernel
theorem dX6_read_46 : decode cX6_read 46 = .ok (.bipush 60, 2) := by decide +kernel
theorem dX6_read_48 : decode cX6_read 48 = .ok (.if_icmp .gt 30, 3) := by decide +kernel
theorem dX6_read_51 : decode cX6_read 51 = .ok (.aload_n 0, 1) := by decide +kernel
theorem dX6_read_52 : decode cX6_read 52 = .ok (.getfield 28, 3) := by decide +kernel
theorem dX6_read_55 : decode cX6_read 55 = .ok (.ifCond .ne 23, 3) := by decide +kernel
theorem dX6_read_58 : decode cX6_read 58 = .ok (.aload_n 0, 1) := by decide +kernel
theorem dX6_read_59 : decode cX6_read 59 = .ok (.getfield 12, 3) := by decide +kernel
theorem dX6_read_62 : decode cX6_read 62 = .ok (.invokevirtual 51, 3) := by decide +kernel
theorem dX6_read_65 : decode cX6_read 65 = .ok (.ifCond .eq 13, 3) := by decide +kernel
theorem dX6_read_68 : decode cX6_read 68 = .ok (.aload_n 0, 1) := by decide +kernel
theorem dX6_read_69 : decode cX6_read 69 = .ok (.invokevirtual 55, 3) := by decide +kernel
theorem dX6_read_72 : decode cX6_read 72 = .ok (.iinc 2 1, 3) := by decide +kernel
theorem dX6_read_75 : decode cX6_read 75 = .ok (.goto (-30), 3) := by decide +kernel
theorem dX6_read_78 : decode cX6_read 78 = .ok (.aload_n 0, 1) := by decide +kernel
theorem dX6_read_79 : decode cX6_read 79 = .ok (.getfield 25, 3) := by decide +kernel
theorem dX6_read_82 : decode cX6_read 82 = .ok (.ireturn, 1) := by decide +kernel
theorem dX6_fail_0 : decode cX6_fail 0 = .ok (.aload_n 0, 1) := by decide +kernel
theorem dX6_fail_1 : decode cX6_fail 1 = .ok (.getfield 28, 3) := by decide +kernel
theorem dX6_fail_4 : decode cX6_fail 4 = .ok (.ifCond .ne 35, 3) := by decide +kernel
theorem dX6_fail_7 : decode cX6_fail 7 = .ok (.aload_n 0, 1) := by decide +kernel
theorem dX6_fail_8 : decode cX6_fail 8 = .ok (.iload_n 1, 1) := by decide +kernel
theorem dX6_fail_9 : decode cX6_fail 9 = .ok (.putfield 28, 3) := by decide +kernel
theorem dX6_fail_12 : decode cX6_fail 12 = .ok (.aload_n 0, 1) := by decide +kernel
theorem dX6_fail_13 : decode cX6_fail 13 = .ok (.iload_n 1, 1) := by decide +kernel
theorem dX6_fail_14 : decode cX6_fail 14 = .ok (.bipush 6, 2) := by decide +kernel
theorem dX6_fail_16 : decode cX6_fail 16 = .ok (.if_icmp .ne 13, 3) := by decide +kernel
theorem dX6_fail_19 : decode cX6_fail 19 = .ok (.aload_n 0, 1) := by decide +kernel
theorem dX6_fail_20 : decode cX6_fail 20 = .ok (.getfield 12, 3) := by decide +kernel
theorem dX6_fail_23 : decode cX6_fail 23 = .ok (.invokevirtual 58, 3) := by decide +kernel
theorem dX6_fail_26 : decode cX6_fail 26 = .ok (.goto 10, 3) := by decide +kernel
theorem dX6_fail_29 : decode cX6_fail 29 = .ok (.aload_n 0, 1) := by decide +kernel
theorem dX6_fail_30 : decode cX6_fail 30 = .ok (.getfield 12, 3) := by decide +kernel
theorem dX6_fail_33 : decode cX6_fail 33 = .ok (.invokevirtual 61, 3) := by decide +kernel
theorem dX6_fail_36 : decode cX6_fail 36 = .ok (.putfield 31, 3) := by decide +kernel
theorem dX6_fail_39 : decode cX6_fail 39 = .ok (.aload_n 0, 1) := by decide +kernel
theorem dX6_fail_40 : decode cX6_fail 40 = .ok (.getfield 12, 3) := by decide +kernel
theorem dX6_fail_43 : decode cX6_fail 43 = .ok (.invokevirtual 64, 3) := by decide +kernel
theorem dX6_fail_46 : decode cX6_fail 46 = .ok (.return_, 1) := by decide +kernel
theorem dX6_ownNumber_0 : decode cX6_ownNumber 0 = .ok (.iconst 0, 1) := by decide +kernel
theorem dX6_ownNumber_1 : decode cX6_ownNumber 1 = .ok (.istore_n 1, 1) := by decide +kernel
theorem dX6_ownNumber_2 : decode cX6_ownNumber 2 = .ok (.iconst 0, 1) := by decide +kernel
theorem dX6_ownNumber_3 : decode cX6_ownNumber 3 = .ok (.istore_n 2, 1) := by decide +kernel
theorem dX6_ownNumber_4 : decode cX6_ownNumber 4 = .ok (.iconst 0, 1) := by decide +kernel
theorem dX6_ownNumber_5 : decode cX6_ownNumber 5 = .ok (.istore_n 3, 1) := by decide +kernel
theorem dX6_ownNumber_6 : decode cX6_ownNumber 6 = .ok (.iload_n 3, 1) := by decide +kernel
theorem dX6_ownNumber_7 : decode cX6_ownNumber 7 = .ok (.ldc 67, 2) := by decide +kernel
theorem dX6_ownNumber_9 : decode cX6_ownNumber 9 = .ok (.invokevirtual 69, 3) := by decide +kernel
theorem dX6_ownNumber_12 : decode cX6_ownNumber 12 = .ok (.if_icmp .ge 52, 3) := by decide +kernel
theorem dX6_ownNumber_15 : decode cX6_ownNumber 15 = .ok (.ldc 67, 2) := by decide +kernel
theorem dX6_ownNumber_17 : decode cX6_ownNumber 17 = .ok (.iload_n 3, 1) := by decide +kernel
theorem dX6_ownNumber_18 : decode cX6_ownNumber 18 = .ok (.invokevirtual 74, 3) := by decide +kernel
theorem dX6_ownNumber_21 : decode cX6_ownNumber 21 = .ok (.istore 4, 2) := by decide +kernel
theorem dX6_ownNumber_23 : decode cX6_ownNumber 23 = .ok (.iload 4, 2) := by decide +kernel
theorem dX6_ownNumber_25 : decode cX6_ownNumber 25 = .ok (.bipush 32, 2) := by decide +kernel
theorem dX6_ownNumber_27 : decode cX6_ownNumber 27 = .ok (.if_icmp .eq 19, 3) := by decide +kernel
theorem dX6_ownNumber_30 : decode cX6_ownNumber 30 = .ok (.iload_n 1, 1) := by decide +kernel
theorem dX6_ownNumber_31 : decode cX6_ownNumber 31 = .ok (.bipush 27, 2) := by decide +kernel
theorem dX6_ownNumber_33 : decode cX6_ownNumber 33 = .ok (.imul, 1) := by decide +kernel
theorem dX6_ownNumber_34 : decode cX6_ownNumber 34 = .ok (.iload 4, 2) := by decide +kernel
theorem dX6_ownNumber_36 : decode cX6_ownNumber 36 = .ok (.bipush 97, 2) := by decide +kernel
theorem dX6_ownNumber_38 : decode cX6_ownNumber 38 = .ok (.isub, 1) := by decide +kernel
theorem dX6_ownNumber_39 : decode cX6_ownNumber 39 = .ok (.iconst 1, 1) := by decide +kernel
theorem dX6_ownNumber_40 : decode cX6_ownNumber 40 = .ok (.iadd, 1) := by decide +kernel
theorem dX6_ownNumber_41 : decode cX6_ownNumber 41 = .ok (.iadd, 1) := by decide +kernel
theorem dX6_ownNumber_42 : decode cX6_ownNumber 42 = .ok (.istore_n 1, 1) := by decide +kernel
theorem dX6_ownNumber_43 : decode cX6_ownNumber 43 = .ok (.goto 15, 3) := by decide +kernel
theorem dX6_ownNumber_46 : decode cX6_ownNumber 46 = .ok (.iload_n 1, 1) := by decide +kernel
theorem dX6_ownNumber_47 : decode cX6_ownNumber 47 = .ok (.iload_n 0, 1) := by decide +kernel
theorem dX6_ownNumber_48 : decode cX6_ownNumber 48 = .ok (.if_icmp .ne 5, 3) := by decide +kernel
theorem dX6_ownNumber_51 : decode cX6_ownNumber 51 = .ok (.iload_n 2, 1) := by decide +kernel
theorem dX6_ownNumber_52 : decode cX6_ownNumber 52 = .ok (.ireturn, 1) := by decide +kernel
theorem dX6_ownNumber_53 : decode cX6_ownNumber 53 = .ok (.iconst 0, 1) := by decide +kernel
theorem dX6_ownNumber_54 : decode cX6_ownNumber 54 = .ok (.istore_n 1, 1) := by decide +kernel
theorem dX6_ownNumber_55 : decode cX6_ownNumber 55 = .ok (.iinc 2 1, 3) := by decide +kernel
theorem dX6_ownNumber_58 : decode cX6_ownNumber 58 = .ok (.iinc 3 1, 3) := by decide +kernel
theorem dX6_ownNumber_61 : decode cX6_ownNumber 61 = .ok (.goto (-55), 3) := by decide +kernel
theorem dX6_ownNumber_64 : decode cX6_ownNumber 64 = .ok (.iconst (-1), 1) := by decide +kernel
theorem dX6_ownNumber_65 : decode cX6_ownNumber 65 = .ok (.ireturn, 1) := by decide +kernel
theorem dX6_ownHere_0 : decode cX6_ownHere 0 = .ok (.aload_n 0, 1) := by decide +kernel
theorem dX6_ownHere_1 : decode cX6_ownHere 1 = .ok (.getfield 12, 3) := by decide +kernel
theorem dX6_ownHere_4 : decode cX6_ownHere 4 = .ok (.invokevirtual 51, 3) := by decide +kernel
theorem dX6_ownHere_7 : decode cX6_ownHere 7 = .ok (.iconst 1, 1) := by decide +kernel
theorem dX6_ownHere_8 : decode cX6_ownHere 8 = .ok (.if_icmp .ne 13, 3) := by decide +kernel
theorem dX6_ownHere_11 : decode cX6_ownHere 11 = .ok (.aload_n 0, 1) := by decide +kernel
theorem dX6_ownHere_12 : decode cX6_ownHere 12 = .ok (.getfield 12, 3) := by decide +kernel
theorem dX6_ownHere_15 : decode cX6_ownHere 15 = .ok (.invokevirtual 78, 3) := by decide +kernel
theorem dX6_ownHere_18 : decode cX6_ownHere 18 = .ok (.goto 4, 3) := by decide +kernel
theorem dX6_ownHere_21 : decode cX6_ownHere 21 = .ok (.iconst (-1), 1) := by decide +kernel
theorem dX6_ownHere_22 : decode cX6_ownHere 22 = .ok (.ireturn, 1) := by decide +kernel
theorem dX6_isSign_0 : decode cX6_isSign 0 = .ok (.aload_n 0, 1) := by decide +kernel
theorem dX6_isSign_1 : decode cX6_isSign 1 = .ok (.getfield 12, 3) := by decide +kernel
theorem dX6_isSign_4 : decode cX6_isSign 4 = .ok (.iconst 4, 1) := by decide +kernel
theorem dX6_isSign_5 : decode cX6_isSign 5 = .ok (.iload_n 1, 1) := by decide +kernel
theorem dX6_isSign_6 : decode cX6_isSign 6 = .ok (.invokevirtual 81, 3) := by decide +kernel
theorem dX6_isSign_9 : decode cX6_isSign 9 = .ok (.ireturn, 1) := by decide +kernel
theorem dX6_isOwn_0 : decode cX6_isOwn 0 = .ok (.aload_n 0, 1) := by decide +kernel
theorem dX6_isOwn_1 : decode cX6_isOwn 1 = .ok (.getfield 12, 3) := by decide +kernel
theorem dX6_isOwn_4 : decode cX6_isOwn 4 = .ok (.iconst 1, 1) := by decide +kernel
theorem dX6_isOwn_5 : decode cX6_isOwn 5 = .ok (.iload_n 1, 1) := by decide +kernel
theorem dX6_isOwn_6 : decode cX6_isOwn 6 = .ok (.invokevirtual 81, 3) := by decide +kernel
theorem dX6_isOwn_9 : decode cX6_isOwn 9 = .ok (.ireturn, 1) := by decide +kernel
theorem dX6_expect_0 : decode cX6_expect 0 = .ok (.aload_n 0, 1) := by decide +kernel
theorem dX6_expect_1 : decode cX6_expect 1 = .ok (.iload_n 1, 1) := by decide +kernel
theorem dX6_expect_2 : decode cX6_expect 2 = .ok (.invokevirtual 85, 3) := by decide +kernel
theorem dX6_expect_5 : decode cX6_expect 5 = .ok (.ifCond .eq 13, 3) := by decide +kernel
theorem dX6_expect_8 : decode cX6_expect 8 = .ok (.aload_n 0, 1) := by decide +kernel
theorem dX6_expect_9 : decode cX6_expect 9 = .ok (.getfield 12, 3) := by decide +kernel
theorem dX6_expect_12 : decode cX6_expect 12 = .ok (.invokevirtual 89, 3) := by decide +kernel
theorem dX6_expect_15 : decode cX6_expect 15 = .ok (.goto 8, 3) := by decide +kernel
theorem dX6_expect_18 : decode cX6_expect 18 = .ok (.aload_n 0, 1) := by decide +kernel
theorem dX6_expect_19 : decode cX6_expect 19 = .ok (.iconst 1, 1) := by decide +kernel
theorem dX6_expect_20 : decode cX6_expect 20 = .ok (.invokevirtual 92, 3) := by decide +kernel
theorem dX6_expect_23 : decode cX6_expect 23 = .ok (.return_, 1) := by decide +kernel
theorem dX6_readStatement_0 : decode cX6_readStatement 0 = .ok (.aload_n 0, 1) := by decide +kernel
theorem dX6_readStatement_1 : decode cX6_readStatement 1 = .ok (.invokevirtual 96, 3) := by decide +kernel
theorem dX6_readStatement_4 : decode cX6_readStatement 4 = .ok (.istore_n 1, 1) := by decide +kernel
theorem dX6_readStatement_5 : decode cX6_readStatement 5 = .ok (.aload_n 0, 1) := by decide +kernel
theorem dX6_readStatement_6 : decode cX6_readStatement 6 = .ok (.getfield 25, 3) := by decide +kernel
theorem dX6_readStatement_9 : decode cX6_readStatement 9 = .ok (.bipush 60, 2) := by decide +kernel
theorem dX6_readStatement_11 : decode cX6_readStatement 11 = .ok (.if_icmp .ne 10, 3) := by decide +kernel
theorem dX6_readStatement_14 : decode cX6_readStatement 14 = .ok (.aload_n 0, 1) := by decide +kernel
theorem dX6_readStatement_15 : decode cX6_readStatement 15 = .ok (.bipush 6, 2) := by decide +kernel
theorem dX6_readStatement_17 : decode cX6_readStatement 17 = .ok (.invokevirtual 92, 3) := by decide +kernel
theorem dX6_readStatement_20 : decode cX6_readStatement 20 = .ok (.return_, 1) := by decide +kernel
theorem dX6_readStatement_21 : decode cX6_readStatement 21 = .ok (.iload_n 1, 1) := by decide +kernel
theorem dX6_readStatement_22 : decode cX6_readStatement 22 = .ok (.ifCond .lt 9, 3) := by decide +kernel
theorem dX6_readStatement_25 : decode cX6_readStatement 25 = .ok (.iload_n 1, 1) := by decide +kernel
theorem dX6_readStatement_26 : decode cX6_readStatement 26 = .ok (.bipush 10, 2) := by decide +kernel
theorem dX6_readStatement_28 : decode cX6_readStatement 28 = .ok (.if_icmp .le 9, 3) := by decide +kernel
theorem dX6_readStatement_31 : decode cX6_readStatement 31 = .ok (.aload_n 0, 1) := by decide +kernel
theorem dX6_readStatement_32 : decode cX6_readStatement 32 = .ok (.iconst 1, 1) := by decide +kernel
theorem dX6_readStatement_33 : decode cX6_readStatement 33 = .ok (.invokevirtual 92, 3) := by decide +kernel
theorem dX6_readStatement_36 : decode cX6_readStatement 36 = .ok (.return_, 1) := by decide +kernel
theorem dX6_readStatement_37 : decode cX6_readStatement 37 = .ok (.aload_n 0, 1) := by decide +kernel
theorem dX6_readStatement_38 : decode cX6_readStatement 38 = .ok (.iload_n 1, 1) := by decide +kernel
theorem dX6_readStatement_39 : decode cX6_readStatement 39 = .ok (.invokevirtual 99, 3) := by decide +kernel
theorem dX6_readStatement_42 : decode cX6_readStatement 42 = .ok (.ifCond .eq 10, 3) := by decide +kernel
theorem dX6_readStatement_45 : decode cX6_readStatement 45 = .ok (.aload_n 0, 1) := by decide +kernel
theorem dX6_readStatement_46 : decode cX6_readStatement 46 = .ok (.bipush 6, 2) := by decide +kernel
theorem dX6_readStatement_48 : decode cX6_readStatement 48 = .ok (.invokevirtual 92, 3) := by decide +kernel
theorem dX6_readStatement_51 : decode cX6_readStatement 51 = .ok (.return_, 1) := by decide +kernel
theorem dX6_readStatement_52 : decode cX6_readStatement 52 = .ok (.aload_n 0, 1) := by decide +kernel
theorem dX6_readStatement_53 : decode cX6_readStatement 53 = .ok (.dup, 1) := by decide +kernel
theorem dX6_readStatement_54 : decode cX6_readStatement 54 = .ok (.getfield 25, 3) := by decide +kernel
theorem dX6_readStatement_57 : decode cX6_readStatement 57 = .ok (.iconst 1, 1) := by decide +kernel
theorem dX6_readStatement_58 : decode cX6_readStatement 58 = .ok (.iadd, 1) := by decide +kernel
theorem dX6_readStatement_59 : decode cX6_readStatement 59 = .ok (.putfield 25, 3) := by decide +kernel
theorem dX6_readStatement_62 : decode cX6_readStatement 62 = .ok (.aload_n 0, 1) := by decide +kernel
theorem dX6_readStatement_63 : decode cX6_readStatement 63 = .ok (.getfield 12, 3) := by decide +kernel
theorem dX6_readStatement_66 : decode cX6_readStatement 66 = .ok (.invokevirtual 89, 3) := by decide +kernel
theorem dX6_readStatement_69 : decode cX6_readStatement 69 = .ok (.iload_n 1, 1) := by decide +kernel
theorem dX6_readStatement_70 : decode cX6_readStatement 70 = .ok (.tableswitch 108 0 7 #[46, 46, 46, 54, 61, 68, 75, 92], 46) := by decide +kernel
theorem dX6_readStatement_116 : decode cX6_readStatement 116 = .ok (.aload_n 0, 1) := by decide +kernel
theorem dX6_readStatement_117 : decode cX6_readStatement 117 = .ok (.iload_n 1, 1) := by decide +kernel
theorem dX6_readStatement_118 : decode cX6_readStatement 118 = .ok (.invokevirtual 103, 3) := by decide +kernel
theorem dX6_readStatement_121 : decode cX6_readStatement 121 = .ok (.goto 65, 3) := by decide +kernel
theorem dX6_readStatement_124 : decode cX6_readStatement 124 = .ok (.aload_n 0, 1) := by decide +kernel
theorem dX6_readStatement_125 : decode cX6_readStatement 125 = .ok (.invokevirtual 106, 3) := by decide +kernel
theorem dX6_readStatement_128 : decode cX6_readStatement 128 = .ok (.goto 58, 3) := by decide +kernel
theorem dX6_readStatement_131 : decode cX6_readStatement 131 = .ok (.aload_n 0, 1) := by decide +kernel
theorem dX6_readStatement_132 : decode cX6_readStatement 132 = .ok (.invokevirtual 109, 3) := by decide +kernel
theorem dX6_readStatement_135 : decode cX6_readStatement 135 = .ok (.goto 51, 3) := by decide +kernel
theorem dX6_readStatement_138 : decode cX6_readStatement 138 = .ok (.aload_n 0, 1) := by decide +kernel
theorem dX6_readStatement_139 : decode cX6_readStatement 139 = .ok (.invokevirtual 112, 3) := by decide +kernel
theorem dX6_readStatement_142 : decode cX6_readStatement 142 = .ok (.goto 44, 3) := by decide +kernel
theorem dX6_readStatement_145 : decode cX6_readStatement 145 = .ok (.aload_n 0, 1) := by decide +kernel
theorem dX6_readStatement_146 : decode cX6_readStatement 146 = .ok (.getfield 38, 3) := by decide +kernel
theorem dX6_readStatement_149 : decode cX6_readStatement 149 = .ok (.aload_n 0, 1) := by decide +kernel
theorem dX6_readStatement_150 : decode cX6_readStatement 150 = .ok (.sipush 999, 3) := by decide +kernel
theorem dX6_readStatement_153 : decode cX6_readStatement 153 = .ok (.invokevirtual 115, 3) := by decide +kernel
theorem dX6_readStatement_156 : decode cX6_readStatement 156 = .ok (.putfield 119, 3) := by decide +kernel
theorem dX6_readStatement_159 : decode cX6_readStatement 159 = .ok (.goto 27, 3) := by decide +kernel
theorem dX6_readStatement_162 : decode cX6_readStatement 162 = .ok (.aload_n 0, 1) := by decide +kernel
theorem dX6_readStatement_163 : decode cX6_readStatement 163 = .ok (.getfield 38, 3) := by decide +kernel
theorem dX6_readStatement_166 : decode cX6_readStatement 166 = .ok (.aload_n 0, 1) := by decide +kernel
theorem dX6_readStatement_167 : decode cX6_readStatement 167 = .ok (.bipush 100, 2) := by decide +kernel
theorem dX6_readStatement_169 : decode cX6_readStatement 169 = .ok (.invokevirtual 115, 3) := by decide +kernel
theorem dX6_readStatement_172 : decode cX6_readStatement 172 = .ok (.putfield 122, 3) := by decide +kernel
theorem dX6_readStatement_175 : decode cX6_readStatement 175 = .ok (.goto 11, 3) := by decide +kernel
theorem dX6_readStatement_178 : decode cX6_readStatement 178 = .ok (.aload_n 0, 1) := by decide +kernel
theorem dX6_readStatement_179 : decode cX6_readStatement 179 = .ok (.iload_n 1, 1) := by decide +kernel
theorem dX6_readStatement_180 : decode cX6_readStatement 180 = .ok (.bipush 8, 2) := by decide +kernel
theorem dX6_readStatement_182 : decode cX6_readStatement 182 = .ok (.isub, 1) := by decide +kernel
theorem dX6_readStatement_183 : decode cX6_readStatement 183 = .ok (.invokevirtual 125, 3) := by decide +kernel
theorem dX6_readStatement_186 : decode cX6_readStatement 186 = .ok (.aload_n 0, 1) := by decide +kernel
theorem dX6_readStatement_187 : decode cX6_readStatement 187 = .ok (.bipush 59, 2) := by decide +kernel
theorem dX6_readStatement_189 : decode cX6_readStatement 189 = .ok (.invokevirtual 128, 3) := by decide +kernel
theorem dX6_readStatement_192 : decode cX6_readStatement 192 = .ok (.return_, 1) := by decide +kernel
theorem dX6_isFull_0 : decode cX6_isFull 0 = .ok (.iload_n 1, 1) := by decide +kernel
theorem dX6_isFull_1 : decode cX6_isFull 1 = .ok (.iconst 2, 1) := by decide +kernel
theorem dX6_isFull_2 : decode cX6_isFull 2 = .ok (.if_icmp .gt 23, 3) := by decide +kernel
theorem dX6_isFull_5 : decode cX6_isFull 5 = .ok (.aload_n 0, 1) := by decide +kernel
theorem dX6_isFull_6 : decode cX6_isFull 6 = .ok (.getfield 38, 3) := by decide +kernel
theorem dX6_isFull_9 : decode cX6_isFull 9 = .ok (.getfield 132, 3) := by decide +kernel
theorem dX6_isFull_12 : decode cX6_isFull 12 = .ok (.iload_n 1, 1) := by decide +kernel
theorem dX6_isFull_13 : decode cX6_isFull 13 = .ok (.iaload, 1) := by decide +kernel
theorem dX6_isFull_14 : decode cX6_isFull 14 = .ok (.bipush 6, 2) := by decide +kernel
theorem dX6_isFull_16 : decode cX6_isFull 16 = .ok (.if_icmp .lt 7, 3) := by decide +kernel
theorem dX6_isFull_19 : decode cX6_isFull 19 = .ok (.iconst 1, 1) := by decide +kernel
theorem dX6_isFull_20 : decode cX6_isFull 20 = .ok (.goto 4, 3) := by decide +kernel
theorem dX6_isFull_23 : decode cX6_isFull 23 = .ok (.iconst 0, 1) := by decide +kernel
theorem dX6_isFull_24 : decode cX6_isFull 24 = .ok (.ireturn, 1) := by decide +kernel
theorem dX6_isFull_25 : decode cX6_isFull 25 = .ok (.iload_n 1, 1) := by decide +kernel
theorem dX6_isFull_26 : decode cX6_isFull 26 = .ok (.bipush 8, 2) := by decide +kernel
theorem dX6_isFull_28 : decode cX6_isFull 28 = .ok (.if_icmp .lt 21, 3) := by decide +kernel
theorem dX6_isFull_31 : decode cX6_isFull 31 = .ok (.aload_n 0, 1) := by decide +kernel
theorem dX6_isFull_32 : decode cX6_isFull 32 = .ok (.getfield 38, 3) := by decide +kernel
theorem dX6_isFull_35 : decode cX6_isFull 35 = .ok (.iload_n 1, 1) := by decide +kernel
theorem dX6_isFull_36 : decode cX6_isFull 36 = .ok (.bipush 8, 2) := by decide +kernel
theorem dX6_isFull_38 : decode cX6_isFull 38 = .ok (.isub, 1) := by decide +kernel
theorem dX6_isFull_39 : decode cX6_isFull 39 = .ok (.invokevirtual 136, 3) := by decide +kernel
theorem dX6_isFull_42 : decode cX6_isFull 42 = .ok (.ifCond .eq 7, 3) := by decide +kernel
theorem dX6_isFull_45 : decode cX6_isFull 45 = .ok (.iconst 1, 1) := by decide +kernel
theorem dX6_isFull_46 : decode cX6_isFull 46 = .ok (.goto 4, 3) := by decide +kernel
theorem dX6_isFull_49 : decode cX6_isFull 49 = .ok (.iconst 0, 1) := by decide +kernel
theorem dX6_isFull_50 : decode cX6_isFull 50 = .ok (.ireturn, 1) := by decide +kernel
theorem dX6_readOne_0 : decode cX6_readOne 0 = .ok (.aload_n 0, 1) := by decide +kernel
theorem dX6_readOne_1 : decode cX6_readOne 1 = .ok (.invokevirtual 139, 3) := by decide +kernel
theorem dX6_readOne_4 : decode cX6_readOne 4 = .ok (.ifCond .ne 4, 3) := by decide +kernel
theorem dX6_readOne_7 : decode cX6_readOne 7 = .ok (.return_, 1) := by decide +kernel
theorem dX6_readOne_8 : decode cX6_readOne 8 = .ok (.aload_n 0, 1) := by decide +kernel
theorem dX6_readOne_9 : decode cX6_readOne 9 = .ok (.aload_n 0, 1) := by decide +kernel
theorem dX6_readOne_10 : decode cX6_readOne 10 = .ok (.getfield 12, 3) := by decide +kernel
theorem dX6_readOne_13 : decode cX6_readOne 13 = .ok (.invokevirtual 78, 3) := by decide +kernel
theorem dX6_readOne_16 : decode cX6_readOne 16 = .ok (.invokevirtual 143, 3) := by decide +kernel
theorem dX6_readOne_19 : decode cX6_readOne 19 = .ok (.ifCond .eq 9, 3) := by decide +kernel
theorem dX6_readOne_22 : decode cX6_readOne 22 = .ok (.aload_n 0, 1) := by decide +kernel
theorem dX6_readOne_23 : decode cX6_readOne 23 = .ok (.iconst 2, 1) := by decide +kernel
theorem dX6_readOne_24 : decode cX6_readOne 24 = .ok (.invokevirtual 92, 3) := by decide +kernel
theorem dX6_readOne_27 : decode cX6_readOne 27 = .ok (.return_, 1) := by decide +kernel
theorem dX6_readOne_28 : decode cX6_readOne 28 = .ok (.iload_n 1, 1) := by decide +kernel
theorem dX6_readOne_29 : decode cX6_readOne 29 = .ok (.bipush 6, 2) := by decide +kernel
theorem dX6_readOne_31 : decode cX6_readOne 31 = .ok (.imul, 1) := by decide +kernel
theorem dX6_readOne_32 : decode cX6_readOne 32 = .ok (.aload_n 0, 1) := by decide +kernel
theorem dX6_readOne_33 : decode cX6_readOne 33 = .ok (.getfield 38, 3) := by decide +kernel
theorem dX6_readOne_36 : decode cX6_readOne 36 = .ok (.getfield 132, 3) := by decide +kernel
theorem dX6_readOne_39 : decode cX6_readOne 39 = .ok (.iload_n 1, 1) := by decide +kernel
theorem dX6_readOne_40 : decode cX6_readOne 40 = .ok (.iaload, 1) := by decide +kernel
theorem dX6_readOne_41 : decode cX6_readOne 41 = .ok (.iadd, 1) := by decide +kernel
theorem dX6_readOne_42 : decode cX6_readOne 42 = .ok (.istore_n 2, 1) := by decide +kernel
theorem dX6_readOne_43 : decode cX6_readOne 43 = .ok (.aload_n 0, 1) := by decide +kernel
theorem dX6_readOne_44 : decode cX6_readOne 44 = .ok (.getfield 38, 3) := by decide +kernel
theorem dX6_readOne_47 : decode cX6_readOne 47 = .ok (.getfield 146, 3) := by decide +kernel
theorem dX6_readOne_50 : decode cX6_readOne 50 = .ok (.iload_n 2, 1) := by decide +kernel
theorem dX6_readOne_51 : decode cX6_readOne 51 = .ok (.aload_n 0, 1) := by decide +kernel
theorem dX6_readOne_52 : decode cX6_readOne 52 = .ok (.getfield 12, 3) := by decide +kernel
theorem dX6_readOne_55 : decode cX6_readOne 55 = .ok (.invokevirtual 78, 3) := by decide +kernel
theorem dX6_readOne_58 : decode cX6_readOne 58 = .ok (.iastore, 1) := by decide +kernel
theorem dX6_readOne_59 : decode cX6_readOne 59 = .ok (.aload_n 0, 1) := by decide +kernel
theorem dX6_readOne_60 : decode cX6_readOne 60 = .ok (.getfield 12, 3) := by decide +kernel
theorem dX6_readOne_63 : decode cX6_readOne 63 = .ok (.invokevirtual 89, 3) := by decide +kernel
theorem dX6_readOne_66 : decode cX6_readOne 66 = .ok (.iconst 0, 1) := by decide +kernel
theorem dX6_readOne_67 : decode cX6_readOne 67 = .ok (.istore_n 3, 1) := by decide +kernel
theorem dX6_readOne_68 : decode cX6_readOne 68 = .ok (.iload_n 3, 1) := by decide +kernel
theorem dX6_readOne_69 : decode cX6_readOne 69 = .ok (.iconst 3, 1) := by decide +kernel
theorem dX6_readOne_70 : decode cX6_readOne 70 = .ok (.if_icmp .ge 32, 3) := by decide +kernel
theorem dX6_readOne_73 : decode cX6_readOne 73 = .ok (.aload_n 0, 1) := by decide +kernel
theorem dX6_readOne_74 : decode cX6_readOne 74 = .ok (.getfield 38, 3) := by decide +kernel
theorem dX6_readOne_77 : decode cX6_readOne 77 = .ok (.getfield 149, 3) := by decide +kernel
theorem dX6_readOne_80 : decode cX6_readOne 80 = .ok (.iload_n 2, 1) := by decide +kernel
theorem dX6_readOne_81 : decode cX6_readOne 81 = .ok (.iconst 4, 1) := by decide +kernel
theorem dX6_readOne_82 : decode cX6_readOne 82 = .ok (.imul, 1) := by decide +kernel
theorem dX6_readOne_83 : decode cX6_readOne 83 = .ok (.iload_n 3, 1) := by decide +kernel
theorem dX6_readOne_84 : decode cX6_readOne 84 = .ok (.iadd, 1) := by decide +kernel
theorem dX6_readOne_85 : decode cX6_readOne 85 = .ok (.aload_n 0, 1) := by decide +kernel
theorem dX6_readOne_86 : decode cX6_readOne 86 = .ok (.bipush 11, 2) := by decide +kernel
theorem dX6_readOne_88 : decode cX6_readOne 88 = .ok (.iload_n 3, 1) := by decide +kernel
theorem dX6_readOne_89 : decode cX6_readOne 89 = .ok (.iadd, 1) := by decide +kernel
theorem dX6_readOne_90 : decode cX6_readOne 90 = .ok (.bipush 9, 2) := by decide +kernel
theorem dX6_readOne_92 : decode cX6_readOne 92 = .ok (.invokevirtual 152, 3) := by decide +kernel
theorem dX6_readOne_95 : decode cX6_readOne 95 = .ok (.iastore, 1) := by decide +kernel
theorem dX6_readOne_96 : decode cX6_readOne 96 = .ok (.iinc 3 1, 3) := by decide +kernel
theorem dX6_readOne_99 : decode cX6_readOne 99 = .ok (.goto (-31), 3) := by decide +kernel
theorem dX6_readOne_102 : decode cX6_readOne 102 = .ok (.iload_n 1, 1) := by decide +kernel
theorem dX6_readOne_103 : decode cX6_readOne 103 = .ok (.iconst 1, 1) := by decide +kernel
theorem dX6_readOne_104 : decode cX6_readOne 104 = .ok (.if_icmp .ne 24, 3) := by decide +kernel
theorem dX6_readOne_107 : decode cX6_readOne 107 = .ok (.aload_n 0, 1) := by decide +kernel
theorem dX6_readOne_108 : decode cX6_readOne 108 = .ok (.getfield 38, 3) := by decide +kernel
theorem dX6_readOne_111 : decode cX6_readOne 111 = .ok (.getfield 149, 3) := by decide +kernel
theorem dX6_readOne_114 : decode cX6_readOne 114 = .ok (.iload_n 2, 1) := by decide +kernel
theorem dX6_readOne_115 : decode cX6_readOne 115 = .ok (.iconst 4, 1) := by decide +kernel
theorem dX6_readOne_116 : decode cX6_readOne 116 = .ok (.imul, 1) := by decide +kernel
theorem dX6_readOne_117 : decode cX6_readOne 117 = .ok (.iconst 3, 1) := by decide +kernel
theorem dX6_readOne_118 : decode cX6_readOne 118 = .ok (.iadd, 1) := by decide +kernel
theorem dX6_readOne_119 : decode cX6_readOne 119 = .ok (.aload_n 0, 1) := by decide +kernel
theorem dX6_readOne_120 : decode cX6_readOne 120 = .ok (.bipush 14, 2) := by decide +kernel
theorem dX6_readOne_122 : decode cX6_readOne 122 = .ok (.bipush 99, 2) := by decide +kernel
theorem dX6_readOne_124 : decode cX6_readOne 124 = .ok (.invokevirtual 152, 3) := by decide +kernel
theorem dX6_readOne_127 : decode cX6_readOne 127 = .ok (.iastore, 1) := by decide +kernel
theorem dX6_readOne_128 : decode cX6_readOne 128 = .ok (.aload_n 0, 1) := by decide +kernel
theorem dX6_readOne_129 : decode cX6_readOne 129 = .ok (.getfield 38, 3) := by decide +kernel
theorem dX6_readOne_132 : decode cX6_readOne 132 = .ok (.getfield 132, 3) := by decide +kernel
theorem dX6_readOne_135 : decode cX6_readOne 135 = .ok (.iload_n 1, 1) := by decide +kernel
theorem dX6_readOne_136 : decode cX6_readOne 136 = .ok (.dup2, 1) := by decide +kernel
theorem dX6_readOne_137 : decode cX6_readOne 137 = .ok (.iaload, 1) := by decide +kernel
theorem dX6_readOne_138 : decode cX6_readOne 138 = .ok (.iconst 1, 1) := by decide +kernel
theorem dX6_readOne_139 : decode cX6_readOne 139 = .ok (.iadd, 1) := by decide +kernel
theorem dX6_readOne_140 : decode cX6_readOne 140 = .ok (.iastore, 1) := by decide +kernel
theorem dX6_readOne_141 : decode cX6_readOne 141 = .ok (.return_, 1) := by decide +kernel
theorem dX6_takeTrait_0 : decode cX6_takeTrait 0 = .ok (.aload_n 0, 1) := by decide +kernel
theorem dX6_takeTrait_1 : decode cX6_takeTrait 1 = .ok (.iload_n 1, 1) := by decide +kernel
theorem dX6_takeTrait_2 : decode cX6_takeTrait 2 = .ok (.invokevirtual 156, 3) := by decide +kernel
theorem dX6_takeTrait_5 : decode cX6_takeTrait 5 = .ok (.ifCond .ne 10, 3) := by decide +kernel
theorem dX6_takeTrait_8 : decode cX6_takeTrait 8 = .ok (.aload_n 0, 1) := by decide +kernel
theorem dX6_takeTrait_9 : decode cX6_takeTrait 9 = .ok (.iconst 1, 1) := by decide +kernel
theorem dX6_takeTrait_10 : decode cX6_takeTrait 10 = .ok (.invokevirtual 92, 3) := by decide +kernel
theorem dX6_takeTrait_13 : decode cX6_takeTrait 13 = .ok (.iconst 0, 1) := by decide +kernel
theorem dX6_takeTrait_14 : decode cX6_takeTrait 14 = .ok (.ireturn, 1) := by decide +kernel
theorem dX6_takeTrait_15 : decode cX6_takeTrait 15 = .ok (.aload_n 0, 1) := by decide +kernel
theorem dX6_takeTrait_16 : decode cX6_takeTrait 16 = .ok (.getfield 12, 3) := by decide +kernel
theorem dX6_takeTrait_19 : decode cX6_takeTrait 19 = .ok (.invokevirtual 89, 3) := by decide +kernel
theorem dX6_takeTrait_22 : decode cX6_takeTrait 22 = .ok (.aload_n 0, 1) := by decide +kernel
theorem dX6_takeTrait_23 : decode cX6_takeTrait 23 = .ok (.iload_n 2, 1) := by decide +kernel
theorem dX6_takeTrait_24 : decode cX6_takeTrait 24 = .ok (.invokevirtual 115, 3) := by decide +kernel
theorem dX6_takeTrait_27 : decode cX6_takeTrait 27 = .ok (.ireturn, 1) := by decide +kernel
theorem dX6_takeUpTo_0 : decode cX6_takeUpTo 0 = .ok (.aload_n 0, 1) := by decide +kernel
theorem dX6_takeUpTo_1 : decode cX6_takeUpTo 1 = .ok (.getfield 12, 3) := by decide +kernel
theorem dX6_takeUpTo_4 : decode cX6_takeUpTo 4 = .ok (.invokevirtual 78, 3) := by decide +kernel
theorem dX6_takeUpTo_7 : decode cX6_takeUpTo 7 = .ok (.istore_n 2, 1) := by decide +kernel
theorem dX6_takeUpTo_8 : decode cX6_takeUpTo 8 = .ok (.aload_n 0, 1) := by decide +kernel
theorem dX6_takeUpTo_9 : decode cX6_takeUpTo 9 = .ok (.getfield 12, 3) := by decide +kernel
theorem dX6_takeUpTo_12 : decode cX6_takeUpTo 12 = .ok (.invokevirtual 51, 3) := by decide +kernel
theorem dX6_takeUpTo_15 : decode cX6_takeUpTo 15 = .ok (.iconst 3, 1) := by decide +kernel
theorem dX6_takeUpTo_16 : decode cX6_takeUpTo 16 = .ok (.if_icmp .eq 10, 3) := by decide +kernel
theorem dX6_takeUpTo_19 : decode cX6_takeUpTo 19 = .ok (.aload_n 0, 1) := by decide +kernel
theorem dX6_takeUpTo_20 : decode cX6_takeUpTo 20 = .ok (.iconst 1, 1) := by decide +kernel
theorem dX6_takeUpTo_21 : decode cX6_takeUpTo 21 = .ok (.invokevirtual 92, 3) := by decide +kernel
theorem dX6_takeUpTo_24 : decode cX6_takeUpTo 24 = .ok (.iconst 0, 1) := by decide +kernel
theorem dX6_takeUpTo_25 : decode cX6_takeUpTo 25 = .ok (.ireturn, 1) := by decide +kernel
theorem dX6_takeUpTo_26 : decode cX6_takeUpTo 26 = .ok (.iload_n 2, 1) := by decide +kernel
theorem dX6_takeUpTo_27 : decode cX6_takeUpTo 27 = .ok (.iload_n 1, 1) := by decide +kernel
theorem dX6_takeUpTo_28 : decode cX6_takeUpTo 28 = .ok (.if_icmp .le 10, 3) := by decide +kernel
theorem dX6_takeUpTo_31 : decode cX6_takeUpTo 31 = .ok (.aload_n 0, 1) := by decide +kernel
theorem dX6_takeUpTo_32 : decode cX6_takeUpTo 32 = .ok (.iconst 4, 1) := by decide +kernel
theorem dX6_takeUpTo_33 : decode cX6_takeUpTo 33 = .ok (.invokevirtual 92, 3) := by decide +kernel
theorem dX6_takeUpTo_36 : decode cX6_takeUpTo 36 = .ok (.iconst 0, 1) := by decide +kernel
theorem dX6_takeUpTo_37 : decode cX6_takeUpTo 37 = .ok (.ireturn, 1) := by decide +kernel
theorem dX6_takeUpTo_38 : decode cX6_takeUpTo 38 = .ok (.aload_n 0, 1) := by decide +kernel
theorem dX6_takeUpTo_39 : decode cX6_takeUpTo 39 = .ok (.getfield 12, 3) := by decide +kernel
theorem dX6_takeUpTo_42 : decode cX6_takeUpTo 42 = .ok (.invokevirtual 89, 3) := by decide +kernel
theorem dX6_takeUpTo_45 : decode cX6_takeUpTo 45 = .ok (.iload_n 2, 1) := by decide +kernel
theorem dX6_takeUpTo_46 : decode cX6_takeUpTo 46 = .ok (.ireturn, 1) := by decide +kernel
theorem dX6_readLate_0 : decode cX6_readLate 0 = .ok (.aload_n 0, 1) := by decide +kernel
theorem dX6_readLate_1 : decode cX6_readLate 1 = .ok (.iconst 0, 1) := by decide +kernel
theorem dX6_readLate_2 : decode cX6_readLate 2 = .ok (.invokevirtual 159, 3) := by decide +kernel
theorem dX6_readLate_5 : decode cX6_readLate 5 = .ok (.istore_n 1, 1) := by decide +kernel
theorem dX6_readLate_6 : decode cX6_readLate 6 = .ok (.iload_n 1, 1) := by decide +kernel
theorem dX6_readLate_7 : decode cX6_readLate 7 = .ok (.iconst (-1), 1) := by decide +kernel
theorem dX6_readLate_8 : decode cX6_readLate 8 = .ok (.if_icmp .ne 4, 3) := by decide +kernel
theorem dX6_readLate_11 : decode cX6_readLate 11 = .ok (.return_, 1) := by decide +kernel
theorem dX6_readLate_12 : decode cX6_readLate 12 = .ok (.aload_n 0, 1) := by decide +kernel
theorem dX6_readLate_13 : decode cX6_readLate 13 = .ok (.getfield 38, 3) := by decide +kernel
theorem dX6_readLate_16 : decode cX6_readLate 16 = .ok (.iload_n 1, 1) := by decide +kernel
theorem dX6_readLate_17 : decode cX6_readLate 17 = .ok (.invokevirtual 162, 3) := by decide +kernel
theorem dX6_readLate_20 : decode cX6_readLate 20 = .ok (.iconst 1, 1) := by decide +kernel
theorem dX6_readLate_21 : decode cX6_readLate 21 = .ok (.if_icmp .ne 9, 3) := by decide +kernel
theorem dX6_readLate_24 : decode cX6_readLate 24 = .ok (.aload_n 0, 1) := by decide +kernel
theorem dX6_readLate_25 : decode cX6_readLate 25 = .ok (.iconst 3, 1) := by decide +kernel
theorem dX6_readLate_26 : decode cX6_readLate 26 = .ok (.invokevirtual 92, 3) := by decide +kernel
theorem dX6_readLate_29 : decode cX6_readLate 29 = .ok (.return_, 1) := by decide +kernel
theorem dX6_readLate_30 : decode cX6_readLate 30 = .ok (.aload_n 0, 1) := by decide +kernel
theorem dX6_readLate_31 : decode cX6_readLate 31 = .ok (.getfield 38, 3) := by decide +kernel
theorem dX6_readLate_34 : decode cX6_readLate 34 = .ok (.dup, 1) := by decide +kernel
theorem dX6_readLate_35 : decode cX6_readLate 35 = .ok (.getfield 165, 3) := by decide +kernel
theorem dX6_readLate_38 : decode cX6_readLate 38 = .ok (.iconst 1, 1) := by decide +kernel
theorem dX6_readLate_39 : decode cX6_readLate 39 = .ok (.iload_n 1, 1) := by decide +kernel
theorem dX6_readLate_40 : decode cX6_readLate 40 = .ok (.ishl, 1) := by decide +kernel
theorem dX6_readLate_41 : decode cX6_readLate 41 = .ok (.ior, 1) := by decide +kernel
theorem dX6_readLate_42 : decode cX6_readLate 42 = .ok (.putfield 165, 3) := by decide +kernel
theorem dX6_readLate_45 : decode cX6_readLate 45 = .ok (.aload_n 0, 1) := by decide +kernel
theorem dX6_readLate_46 : decode cX6_readLate 46 = .ok (.getfield 12, 3) := by decide +kernel
theorem dX6_readLate_49 : decode cX6_readLate 49 = .ok (.invokevirtual 89, 3) := by decide +kernel
theorem dX6_readLate_52 : decode cX6_readLate 52 = .ok (.return_, 1) := by decide +kernel
theorem dX6_readNear_0 : decode cX6_readNear 0 = .ok (.aload_n 0, 1) := by decide +kernel
theorem dX6_readNear_1 : decode cX6_readNear 1 = .ok (.iconst 2, 1) := by decide +kernel
theorem dX6_readNear_2 : decode cX6_readNear 2 = .ok (.invokevirtual 159, 3) := by decide +kernel
theorem dX6_readNear_5 : decode cX6_readNear 5 = .ok (.istore_n 1, 1) := by decide +kernel
theorem dX6_readNear_6 : decode cX6_readNear 6 = .ok (.iload_n 1, 1) := by decide +kernel
theorem dX6_readNear_7 : decode cX6_readNear 7 = .ok (.iconst (-1), 1) := by decide +kernel
theorem dX6_readNear_8 : decode cX6_readNear 8 = .ok (.if_icmp .ne 4, 3) := by decide +kernel
theorem dX6_readNear_11 : decode cX6_readNear 11 = .ok (.return_, 1) := by decide +kernel
theorem dX6_readNear_12 : decode cX6_readNear 12 = .ok (.aload_n 0, 1) := by decide +kernel
theorem dX6_readNear_13 : decode cX6_readNear 13 = .ok (.getfield 12, 3) := by decide +kernel
theorem dX6_readNear_16 : decode cX6_readNear 16 = .ok (.invokevirtual 89, 3) := by decide +kernel
theorem dX6_readNear_19 : decode cX6_readNear 19 = .ok (.aload_n 0, 1) := by decide +kernel
theorem dX6_readNear_20 : decode cX6_readNear 20 = .ok (.iconst 2, 1) := by decide +kernel
theorem dX6_readNear_21 : decode cX6_readNear 21 = .ok (.invokevirtual 159, 3) := by decide +kernel
theorem dX6_readNear_24 : decode cX6_readNear 24 = .ok (.istore_n 2, 1) := by decide +kernel
theorem dX6_readNear_25 : decode cX6_readNear 25 = .ok (.iload_n 2, 1) := by decide +kernel
theorem dX6_readNear_26 : decode cX6_readNear 26 = .ok (.iconst (-1), 1) := by decide +kernel
theorem dX6_readNear_27 : decode cX6_readNear 27 = .ok (.if_icmp .ne 4, 3) := by decide +kernel
theorem dX6_readNear_30 : decode cX6_readNear 30 = .ok (.return_, 1) := by decide +kernel
theorem dX6_readNear_31 : decode cX6_readNear 31 = .ok (.iload_n 1, 1) := by decide +kernel
theorem dX6_readNear_32 : decode cX6_readNear 32 = .ok (.iload_n 2, 1) := by decide +kernel
theorem dX6_readNear_33 : decode cX6_readNear 33 = .ok (.if_icmp .eq 20, 3) := by decide +kernel
theorem dX6_readNear_36 : decode cX6_readNear 36 = .ok (.aload_n 0, 1) := by decide +kernel
theorem dX6_readNear_37 : decode cX6_readNear 37 = .ok (.getfield 38, 3) := by decide +kernel
theorem dX6_readNear_40 : decode cX6_readNear 40 = .ok (.getfield 168, 3) := by decide +kernel
theorem dX6_readNear_43 : decode cX6_readNear 43 = .ok (.iload_n 1, 1) := by decide +kernel
theorem dX6_readNear_44 : decode cX6_readNear 44 = .ok (.iaload, 1) := by decide +kernel
theorem dX6_readNear_45 : decode cX6_readNear 45 = .ok (.iload_n 2, 1) := by decide +kernel
theorem dX6_readNear_46 : decode cX6_readNear 46 = .ok (.ishr, 1) := by decide +kernel
theorem dX6_readNear_47 : decode cX6_readNear 47 = .ok (.iconst 1, 1) := by decide +kernel
theorem dX6_readNear_48 : decode cX6_readNear 48 = .ok (.iand, 1) := by decide +kernel
theorem dX6_readNear_49 : decode cX6_readNear 49 = .ok (.iconst 1, 1) := by decide +kernel
theorem dX6_readNear_50 : decode cX6_readNear 50 = .ok (.if_icmp .ne 9, 3) := by decide +kernel
theorem dX6_readNear_53 : decode cX6_readNear 53 = .ok (.aload_n 0, 1) := by decide +kernel
theorem dX6_readNear_54 : decode cX6_readNear 54 = .ok (.iconst 3, 1) := by decide +kernel
theorem dX6_readNear_55 : decode cX6_readNear 55 = .ok (.invokevirtual 92, 3) := by decide +kernel
theorem dX6_readNear_58 : decode cX6_readNear 58 = .ok (.return_, 1) := by decide +kernel
theorem dX6_readNear_59 : decode cX6_readNear 59 = .ok (.aload_n 0, 1) := by decide +kernel
theorem dX6_readNear_60 : decode cX6_readNear 60 = .ok (.getfield 38, 3) := by decide +kernel
theorem dX6_readNear_63 : decode cX6_readNear 63 = .ok (.getfield 168, 3) := by decide +kernel
theorem dX6_readNear_66 : decode cX6_readNear 66 = .ok (.iload_n 1, 1) := by decide +kernel
theorem dX6_readNear_67 : decode cX6_readNear 67 = .ok (.dup2, 1) := by decide +kernel
theorem dX6_readNear_68 : decode cX6_readNear 68 = .ok (.iaload, 1) := by decide +kernel
theorem dX6_readNear_69 : decode cX6_readNear 69 = .ok (.iconst 1, 1) := by decide +kernel
theorem dX6_readNear_70 : decode cX6_readNear 70 = .ok (.iload_n 2, 1) := by decide +kernel
theorem dX6_readNear_71 : decode cX6_readNear 71 = .ok (.ishl, 1) := by decide +kernel
theorem dX6_readNear_72 : decode cX6_readNear 72 = .ok (.ior, 1) := by decide +kernel
theorem dX6_readNear_73 : decode cX6_readNear 73 = .ok (.iastore, 1) := by decide +kernel
theorem dX6_readNear_74 : decode cX6_readNear 74 = .ok (.aload_n 0, 1) := by decide +kernel
theorem dX6_readNear_75 : decode cX6_readNear 75 = .ok (.getfield 38, 3) := by decide +kernel
theorem dX6_readNear_78 : decode cX6_readNear 78 = .ok (.getfield 168, 3) := by decide +kernel
theorem dX6_readNear_81 : decode cX6_readNear 81 = .ok (.iload_n 2, 1) := by decide +kernel
theorem dX6_readNear_82 : decode cX6_readNear 82 = .ok (.dup2, 1) := by decide +kernel
theorem dX6_readNear_83 : decode cX6_readNear 83 = .ok (.iaload, 1) := by decide +kernel
theorem dX6_readNear_84 : decode cX6_readNear 84 = .ok (.iconst 1, 1) := by decide +kernel
theorem dX6_readNear_85 : decode cX6_readNear 85 = .ok (.iload_n 1, 1) := by decide +kernel
theorem dX6_readNear_86 : decode cX6_readNear 86 = .ok (.ishl, 1) := by decide +kernel
theorem dX6_readNear_87 : decode cX6_readNear 87 = .ok (.ior, 1) := by decide +kernel
theorem dX6_readNear_88 : decode cX6_readNear 88 = .ok (.iastore, 1) := by decide +kernel
theorem dX6_readNear_89 : decode cX6_readNear 89 = .ok (.aload_n 0, 1) := by decide +kernel
theorem dX6_readNear_90 : decode cX6_readNear 90 = .ok (.getfield 12, 3) := by decide +kernel
theorem dX6_readNear_93 : decode cX6_readNear 93 = .ok (.invokevirtual 89, 3) := by decide +kernel
theorem dX6_readNear_96 : decode cX6_readNear 96 = .ok (.return_, 1) := by decide +kernel
theorem dX6_readWears_0 : decode cX6_readWears 0 = .ok (.aload_n 0, 1) := by decide +kernel
theorem dX6_readWears_1 : decode cX6_readWears 1 = .ok (.iconst 2, 1) := by decide +kernel
theorem dX6_readWears_2 : decode cX6_readWears 2 = .ok (.invokevirtual 159, 3) := by decide +kernel
theorem dX6_readWears_5 : decode cX6_readWears 5 = .ok (.istore_n 1, 1) := by decide +kernel
theorem dX6_readWears_6 : decode cX6_readWears 6 = .ok (.iload_n 1, 1) := by decide +kernel
theorem dX6_readWears_7 : decode cX6_readWears 7 = .ok (.iconst (-1), 1) := by decide +kernel
theorem dX6_readWears_8 : decode cX6_readWears 8 = .ok (.if_icmp .ne 4, 3) := by decide +kernel
theorem dX6_readWears_11 : decode cX6_readWears 11 = .ok (.return_, 1) := by decide +kernel
theorem dX6_readWears_12 : decode cX6_readWears 12 = .ok (.aload_n 0, 1) := by decide +kernel
theorem dX6_readWears_13 : decode cX6_readWears 13 = .ok (.getfield 12, 3) := by decide +kernel
theorem dX6_readWears_16 : decode cX6_readWears 16 = .ok (.invokevirtual 89, 3) := by decide +kernel
theorem dX6_readWears_19 : decode cX6_readWears 19 = .ok (.aload_n 0, 1) := by decide +kernel
theorem dX6_readWears_20 : decode cX6_readWears 20 = .ok (.iconst 1, 1) := by decide +kernel
theorem dX6_readWears_21 : decode cX6_readWears 21 = .ok (.invokevirtual 159, 3) := by decide +kernel
theorem dX6_readWears_24 : decode cX6_readWears 24 = .ok (.istore_n 2, 1) := by decide +kernel
theorem dX6_readWears_25 : decode cX6_readWears 25 = .ok (.iload_n 2, 1) := by decide +kernel
theorem dX6_readWears_26 : decode cX6_readWears 26 = .ok (.iconst (-1), 1) := by decide +kernel
theorem dX6_readWears_27 : decode cX6_readWears 27 = .ok (.if_icmp .ne 4, 3) := by decide +kernel
theorem dX6_readWears_30 : decode cX6_readWears 30 = .ok (.return_, 1) := by decide +kernel
theorem dX6_readWears_31 : decode cX6_readWears 31 = .ok (.aload_n 0, 1) := by decide +kernel
theorem dX6_readWears_32 : decode cX6_readWears 32 = .ok (.getfield 38, 3) := by decide +kernel
theorem dX6_readWears_35 : decode cX6_readWears 35 = .ok (.getfield 171, 3) := by decide +kernel
theorem dX6_readWears_38 : decode cX6_readWears 38 = .ok (.iload_n 1, 1) := by decide +kernel
theorem dX6_readWears_39 : decode cX6_readWears 39 = .ok (.iload_n 2, 1) := by decide +kernel
theorem dX6_readWears_40 : decode cX6_readWears 40 = .ok (.iastore, 1) := by decide +kernel
theorem dX6_readWears_41 : decode cX6_readWears 41 = .ok (.aload_n 0, 1) := by decide +kernel
theorem dX6_readWears_42 : decode cX6_readWears 42 = .ok (.getfield 12, 3) := by decide +kernel
theorem dX6_readWears_45 : decode cX6_readWears 45 = .ok (.invokevirtual 89, 3) := by decide +kernel
theorem dX6_readWears_48 : decode cX6_readWears 48 = .ok (.return_, 1) := by decide +kernel
theorem dX6_isName_0 : decode cX6_isName 0 = .ok (.aload_n 0, 1) := by decide +kernel
theorem dX6_isName_1 : decode cX6_isName 1 = .ok (.getfield 12, 3) := by decide +kernel
theorem dX6_isName_4 : decode cX6_isName 4 = .ok (.invokevirtual 51, 3) := by decide +kernel
theorem dX6_isName_7 : decode cX6_isName 7 = .ok (.iconst 2, 1) := by decide +kernel
theorem dX6_isName_8 : decode cX6_isName 8 = .ok (.if_icmp .ne 5, 3) := by decide +kernel
theorem dX6_isName_11 : decode cX6_isName 11 = .ok (.iconst 1, 1) := by decide +kernel
theorem dX6_isName_12 : decode cX6_isName 12 = .ok (.ireturn, 1) := by decide +kernel
theorem dX6_isName_13 : decode cX6_isName 13 = .ok (.aload_n 0, 1) := by decide +kernel
theorem dX6_isName_14 : decode cX6_isName 14 = .ok (.iconst 1, 1) := by decide +kernel
theorem dX6_isName_15 : decode cX6_isName 15 = .ok (.invokevirtual 92, 3) := by decide +kernel
theorem dX6_isName_18 : decode cX6_isName 18 = .ok (.iconst 0, 1) := by decide +kernel
theorem dX6_isName_19 : decode cX6_isName 19 = .ok (.ireturn, 1) := by decide +kernel
theorem dX6_isTaken_0 : decode cX6_isTaken 0 = .ok (.aload_n 0, 1) := by decide +kernel
theorem dX6_isTaken_1 : decode cX6_isTaken 1 = .ok (.getfield 38, 3) := by decide +kernel
theorem dX6_isTaken_4 : decode cX6_isTaken 4 = .ok (.iconst 0, 1) := by decide +kernel
theorem dX6_isTaken_5 : decode cX6_isTaken 5 = .ok (.iload_n 1, 1) := by decide +kernel
theorem dX6_isTaken_6 : decode cX6_isTaken 6 = .ok (.invokevirtual 174, 3) := by decide +kernel
theorem dX6_isTaken_9 : decode cX6_isTaken 9 = .ok (.iconst (-1), 1) := by decide +kernel
theorem dX6_isTaken_10 : decode cX6_isTaken 10 = .ok (.if_icmp .ne 29, 3) := by decide +kernel
theorem dX6_isTaken_13 : decode cX6_isTaken 13 = .ok (.aload_n 0, 1) := by decide +kernel
theorem dX6_isTaken_14 : decode cX6_isTaken 14 = .ok (.getfield 38, 3) := by decide +kernel
theorem dX6_isTaken_17 : decode cX6_isTaken 17 = .ok (.iconst 1, 1) := by decide +kernel
theorem dX6_isTaken_18 : decode cX6_isTaken 18 = .ok (.iload_n 1, 1) := by decide +kernel
theorem dX6_isTaken_19 : decode cX6_isTaken 19 = .ok (.invokevirtual 174, 3) := by decide +kernel
theorem dX6_isTaken_22 : decode cX6_isTaken 22 = .ok (.iconst (-1), 1) := by decide +kernel
theorem dX6_isTaken_23 : decode cX6_isTaken 23 = .ok (.if_icmp .ne 16, 3) := by decide +kernel
theorem dX6_isTaken_26 : decode cX6_isTaken 26 = .ok (.aload_n 0, 1) := by decide +kernel
theorem dX6_isTaken_27 : decode cX6_isTaken 27 = .ok (.getfield 38, 3) := by decide +kernel
theorem dX6_isTaken_30 : decode cX6_isTaken 30 = .ok (.iconst 2, 1) := by decide +kernel
theorem dX6_isTaken_31 : decode cX6_isTaken 31 = .ok (.iload_n 1, 1) := by decide +kernel
theorem dX6_isTaken_32 : decode cX6_isTaken 32 = .ok (.invokevirtual 174, 3) := by decide +kernel
theorem dX6_isTaken_35 : decode cX6_isTaken 35 = .ok (.iconst (-1), 1) := by decide +kernel
theorem dX6_isTaken_36 : decode cX6_isTaken 36 = .ok (.if_icmp .eq 7, 3) := by decide +kernel
theorem dX6_isTaken_39 : decode cX6_isTaken 39 = .ok (.iconst 1, 1) := by decide +kernel
theorem dX6_isTaken_40 : decode cX6_isTaken 40 = .ok (.goto 4, 3) := by decide +kernel
theorem dX6_isTaken_43 : decode cX6_isTaken 43 = .ok (.iconst 0, 1) := by decide +kernel
theorem dX6_isTaken_44 : decode cX6_isTaken 44 = .ok (.ireturn, 1) := by decide +kernel
theorem dX6_findNamed_0 : decode cX6_findNamed 0 = .ok (.aload_n 0, 1) := by decide +kernel
theorem dX6_findNamed_1 : decode cX6_findNamed 1 = .ok (.invokevirtual 139, 3) := by decide +kernel
theorem dX6_findNamed_4 : decode cX6_findNamed 4 = .ok (.ifCond .ne 5, 3) := by decide +kernel
theorem dX6_findNamed_7 : decode cX6_findNamed 7 = .ok (.iconst (-1), 1) := by decide +kernel
theorem dX6_findNamed_8 : decode cX6_findNamed 8 = .ok (.ireturn, 1) := by decide +kernel
theorem dX6_findNamed_9 : decode cX6_findNamed 9 = .ok (.aload_n 0, 1) := by decide +kernel
theorem dX6_findNamed_10 : decode cX6_findNamed 10 = .ok (.getfield 38, 3) := by decide +kernel
theorem dX6_findNamed_13 : decode cX6_findNamed 13 = .ok (.iload_n 1, 1) := by decide +kernel
theorem dX6_findNamed_14 : decode cX6_findNamed 14 = .ok (.aload_n 0, 1) := by decide +kernel
theorem dX6_findNamed_15 : decode cX6_findNamed 15 = .ok (.getfield 12, 3) := by decide +kernel
theorem dX6_findNamed_18 : decode cX6_findNamed 18 = .ok (.invokevirtual 78, 3) := by decide +kernel
theorem dX6_findNamed_21 : decode cX6_findNamed 21 = .ok (.invokevirtual 174, 3) := by decide +kernel
theorem dX6_findNamed_24 : decode cX6_findNamed 24 = .ok (.istore_n 2, 1) := by decide +kernel
theorem dX6_findNamed_25 : decode cX6_findNamed 25 = .ok (.iload_n 2, 1) := by decide +kernel
theorem dX6_findNamed_26 : decode cX6_findNamed 26 = .ok (.iconst (-1), 1) := by decide +kernel
theorem dX6_findNamed_27 : decode cX6_findNamed 27 = .ok (.if_icmp .ne 8, 3) := by decide +kernel
theorem dX6_findNamed_30 : decode cX6_findNamed 30 = .ok (.aload_n 0, 1) := by decide +kernel
theorem dX6_findNamed_31 : decode cX6_findNamed 31 = .ok (.iconst 3, 1) := by decide +kernel
theorem dX6_findNamed_32 : decode cX6_findNamed 32 = .ok (.invokevirtual 92, 3) := by decide +kernel
theorem dX6_findNamed_35 : decode cX6_findNamed 35 = .ok (.iload_n 2, 1) := by decide +kernel
theorem dX6_findNamed_36 : decode cX6_findNamed 36 = .ok (.ireturn, 1) := by decide +kernel
theorem dX6_readFormula_0 : decode cX6_readFormula 0 = .ok (.aload_n 0, 1) := by decide +kernel
theorem dX6_readFormula_1 : decode cX6_readFormula 1 = .ok (.iload_n 1, 1) := by decide +kernel
theorem dX6_readFormula_2 : decode cX6_readFormula 2 = .ok (.putfield 22, 3) := by decide +kernel
theorem dX6_readFormula_5 : decode cX6_readFormula 5 = .ok (.aload_n 0, 1) := by decide +kernel
theorem dX6_readFormula_6 : decode cX6_readFormula 6 = .ok (.getfield 38, 3) := by decide +kernel
theorem dX6_readFormula_9 : decode cX6_readFormula 9 = .ok (.getfield 177, 3) := by decide +kernel
theorem dX6_readFormula_12 : decode cX6_readFormula 12 = .ok (.iload_n 1, 1) := by decide +kernel
theorem dX6_readFormula_13 : decode cX6_readFormula 13 = .ok (.aload_n 0, 1) := by decide +kernel
theorem dX6_readFormula_14 : decode cX6_readFormula 14 = .ok (.getfield 38, 3) := by decide +kernel
theorem dX6_readFormula_17 : decode cX6_readFormula 17 = .ok (.getfield 180, 3) := by decide +kernel
theorem dX6_readFormula_20 : decode cX6_readFormula 20 = .ok (.iastore, 1) := by decide +kernel
theorem dX6_readFormula_21 : decode cX6_readFormula 21 = .ok (.iload_n 1, 1) := by decide +kernel
theorem dX6_readFormula_22 : decode cX6_readFormula 22 = .ok (.iconst 1, 1) := by decide +kernel
theorem dX6_readFormula_23 : decode cX6_readFormula 23 = .ok (.if_icmp .ne 10, 3) := by decide +kernel
theorem dX6_readFormula_26 : decode cX6_readFormula 26 = .ok (.aload_n 0, 1) := by decide +kernel
theorem dX6_readFormula_27 : decode cX6_readFormula 27 = .ok (.invokevirtual 183, 3) := by decide +kernel
theorem dX6_readFormula_30 : decode cX6_readFormula 30 = .ok (.goto 7, 3) := by decide +kernel
theorem dX6_readFormula_33 : decode cX6_readFormula 33 = .ok (.aload_n 0, 1) := by decide +kernel
theorem dX6_readFormula_34 : decode cX6_readFormula 34 = .ok (.invokevirtual 186, 3) := by decide +kernel
theorem dX6_readFormula_37 : decode cX6_readFormula 37 = .ok (.aload_n 0, 1) := by decide +kernel
theorem dX6_readFormula_38 : decode cX6_readFormula 38 = .ok (.getfield 38, 3) := by decide +kernel
theorem dX6_readFormula_41 : decode cX6_readFormula 41 = .ok (.getfield 189, 3) := by decide +kernel
theorem dX6_readFormula_44 : decode cX6_readFormula 44 = .ok (.iload_n 1, 1) := by decide +kernel
theorem dX6_readFormula_45 : decode cX6_readFormula 45 = .ok (.aload_n 0, 1) := by decide +kernel
theorem dX6_readFormula_46 : decode cX6_readFormula 46 = .ok (.getfield 38, 3) := by decide +kernel
theorem dX6_readFormula_49 : decode cX6_readFormula 49 = .ok (.getfield 180, 3) := by decide +kernel
theorem dX6_readFormula_52 : decode cX6_readFormula 52 = .ok (.iastore, 1) := by decide +kernel
theorem dX6_readFormula_53 : decode cX6_readFormula 53 = .ok (.return_, 1) := by decide +kernel
theorem dX6_emit_0 : decode cX6_emit 0 = .ok (.aload_n 0, 1) := by decide +kernel
theorem dX6_emit_1 : decode cX6_emit 1 = .ok (.getfield 38, 3) := by decide +kernel
theorem dX6_emit_4 : decode cX6_emit 4 = .ok (.getfield 180, 3) := by decide +kernel
theorem dX6_emit_7 : decode cX6_emit 7 = .ok (.aload_n 0, 1) := by decide +kernel
theorem dX6_emit_8 : decode cX6_emit 8 = .ok (.getfield 38, 3) := by decide +kernel
theorem dX6_emit_11 : decode cX6_emit 11 = .ok (.getfield 192, 3) := by decide +kernel
theorem dX6_emit_14 : decode cX6_emit 14 = .ok (.arraylength, 1) := by decide +kernel
theorem dX6_emit_15 : decode cX6_emit 15 = .ok (.if_icmp .ge 32, 3) := by decide +kernel
theorem dX6_emit_18 : decode cX6_emit 18 = .ok (.aload_n 0, 1) := by decide +kernel
theorem dX6_emit_19 : decode cX6_emit 19 = .ok (.getfield 38, 3) := by decide +kernel
theorem dX6_emit_22 : decode cX6_emit 22 = .ok (.getfield 192, 3) := by decide +kernel
theorem dX6_emit_25 : decode cX6_emit 25 = .ok (.aload_n 0, 1) := by decide +kernel
theorem dX6_emit_26 : decode cX6_emit 26 = .ok (.getfield 38, 3) := by decide +kernel
theorem dX6_emit_29 : decode cX6_emit 29 = .ok (.getfield 180, 3) := by decide +kernel
theorem dX6_emit_32 : decode cX6_emit 32 = .ok (.iload_n 1, 1) := by decide +kernel
theorem dX6_emit_33 : decode cX6_emit 33 = .ok (.iastore, 1) := by decide +kernel
theorem dX6_emit_34 : decode cX6_emit 34 = .ok (.aload_n 0, 1) := by decide +kernel
theorem dX6_emit_35 : decode cX6_emit 35 = .ok (.getfield 38, 3) := by decide +kernel
theorem dX6_emit_38 : decode cX6_emit 38 = .ok (.dup, 1) := by decide +kernel
theorem dX6_emit_39 : decode cX6_emit 39 = .ok (.getfield 180, 3) := by decide +kernel
theorem dX6_emit_42 : decode cX6_emit 42 = .ok (.iconst 1, 1) := by decide +kernel
theorem dX6_emit_43 : decode cX6_emit 43 = .ok (.iadd, 1) := by decide +kernel
theorem dX6_emit_44 : decode cX6_emit 44 = .ok (.putfield 180, 3) := by decide +kernel
theorem dX6_emit_47 : decode cX6_emit 47 = .ok (.return_, 1) := by decide +kernel
theorem dX6_opens_0 : decode cX6_opens 0 = .ok (.aload_n 0, 1) := by decide +kernel
theorem dX6_opens_1 : decode cX6_opens 1 = .ok (.getfield 18, 3) := by decide +kernel
theorem dX6_opens_4 : decode cX6_opens 4 = .ok (.bipush 7, 2) := by decide +kernel
theorem dX6_opens_6 : decode cX6_opens 6 = .ok (.if_icmp .lt 10, 3) := by decide +kernel
theorem dX6_opens_9 : decode cX6_opens 9 = .ok (.aload_n 0, 1) := by decide +kernel
theorem dX6_opens_10 : decode cX6_opens 10 = .ok (.iconst 5, 1) := by decide +kernel
theorem dX6_opens_11 : decode cX6_opens 11 = .ok (.invokevirtual 92, 3) := by decide +kernel
theorem dX6_opens_14 : decode cX6_opens 14 = .ok (.iconst 0, 1) := by decide +kernel
theorem dX6_opens_15 : decode cX6_opens 15 = .ok (.ireturn, 1) := by decide +kernel
theorem dX6_opens_16 : decode cX6_opens 16 = .ok (.aload_n 0, 1) := by decide +kernel
theorem dX6_opens_17 : decode cX6_opens 17 = .ok (.dup, 1) := by decide +kernel
theorem dX6_opens_18 : decode cX6_opens 18 = .ok (.getfield 18, 3) := by decide +kernel
theorem dX6_opens_21 : decode cX6_opens 21 = .ok (.iconst 1, 1) := by decide +kernel
theorem dX6_opens_22 : decode cX6_opens 22 = .ok (.iadd, 1) := by decide +kernel
theorem dX6_opens_23 : decode cX6_opens 23 = .ok (.putfield 18, 3) := by decide +kernel
theorem dX6_opens_26 : decode cX6_opens 26 = .ok (.aload_n 0, 1) := by decide +kernel
theorem dX6_opens_27 : decode cX6_opens 27 = .ok (.getfield 12, 3) := by decide +kernel
theorem dX6_opens_30 : decode cX6_opens 30 = .ok (.invokevirtual 89, 3) := by decide +kernel
theorem dX6_opens_33 : decode cX6_opens 33 = .ok (.iconst 1, 1) := by decide +kernel
theorem dX6_opens_34 : decode cX6_opens 34 = .ok (.ireturn, 1) := by decide +kernel
theorem dX6_readTest_0 : decode cX6_readTest 0 = .ok (.aload_n 0, 1) := by decide +kernel
theorem dX6_readTest_1 : decode cX6_readTest 1 = .ok (.invokevirtual 195, 3) := by decide +kernel
theorem dX6_readTest_4 : decode cX6_readTest 4 = .ok (.iconst 0, 1) := by decide +kernel
theorem dX6_readTest_5 : decode cX6_readTest 5 = .ok (.istore_n 1, 1) := by decide +kernel
theorem dX6_readTest_6 : decode cX6_readTest 6 = .ok (.iload_n 1, 1) := by decide +kernel
theorem dX6_readTest_7 : decode cX6_readTest 7 = .ok (.sipush 1600, 3) := by decide +kernel
theorem dX6_readTest_10 : decode cX6_readTest 10 = .ok (.if_icmp .ge 35, 3) := by decide +kernel
theorem dX6_readTest_13 : decode cX6_readTest 13 = .ok (.aload_n 0, 1) := by decide +kernel
theorem dX6_readTest_14 : decode cX6_readTest 14 = .ok (.bipush 22, 2) := by decide +kernel
theorem dX6_readTest_16 : decode cX6_readTest 16 = .ok (.invokevirtual 156, 3) := by decide +kernel
theorem dX6_readTest_19 : decode cX6_readTest 19 = .ok (.ifCond .eq 26, 3) := by decide +kernel
theorem dX6_readTest_22 : decode cX6_readTest 22 = .ok (.aload_n 0, 1) := by decide +kernel
theorem dX6_readTest_23 : decode cX6_readTest 23 = .ok (.getfield 12, 3) := by decide +kernel
theorem dX6_readTest_26 : decode cX6_readTest 26 = .ok (.invokevirtual 89, 3) := by decide +kernel
theorem dX6_readTest_29 : decode cX6_readTest 29 = .ok (.aload_n 0, 1) := by decide +kernel
theorem dX6_readTest_30 : decode cX6_readTest 30 = .ok (.invokevirtual 195, 3) := by decide +kernel
theorem dX6_readTest_33 : decode cX6_readTest 33 = .ok (.aload_n 0, 1) := by decide +kernel
theorem dX6_readTest_34 : decode cX6_readTest 34 = .ok (.bipush (-21), 2) := by decide +kernel
theorem dX6_readTest_36 : decode cX6_readTest 36 = .ok (.invokevirtual 200, 3) := by decide +kernel
theorem dX6_readTest_39 : decode cX6_readTest 39 = .ok (.iinc 1 1, 3) := by decide +kernel
theorem dX6_readTest_42 : decode cX6_readTest 42 = .ok (.goto (-36), 3) := by decide +kernel
theorem dX6_readTest_45 : decode cX6_readTest 45 = .ok (.return_, 1) := by decide +kernel
theorem dX6_readBoth_0 : decode cX6_readBoth 0 = .ok (.aload_n 0, 1) := by decide +kernel
theorem dX6_readBoth_1 : decode cX6_readBoth 1 = .ok (.invokevirtual 203, 3) := by decide +kernel
theorem dX6_readBoth_4 : decode cX6_readBoth 4 = .ok (.iconst 0, 1) := by decide +kernel
theorem dX6_readBoth_5 : decode cX6_readBoth 5 = .ok (.istore_n 1, 1) := by decide +kernel
theorem dX6_readBoth_6 : decode cX6_readBoth 6 = .ok (.iload_n 1, 1) := by decide +kernel
theorem dX6_readBoth_7 : decode cX6_readBoth 7 = .ok (.sipush 1600, 3) := by decide +kernel
theorem dX6_readBoth_10 : decode cX6_readBoth 10 = .ok (.if_icmp .ge 35, 3) := by decide +kernel
theorem dX6_readBoth_13 : decode cX6_readBoth 13 = .ok (.aload_n 0, 1) := by decide +kernel
theorem dX6_readBoth_14 : decode cX6_readBoth 14 = .ok (.bipush 23, 2) := by decide +kernel
theorem dX6_readBoth_16 : decode cX6_readBoth 16 = .ok (.invokevirtual 156, 3) := by decide +kernel
theorem dX6_readBoth_19 : decode cX6_readBoth 19 = .ok (.ifCond .eq 26, 3) := by decide +kernel
theorem dX6_readBoth_22 : decode cX6_readBoth 22 = .ok (.aload_n 0, 1) := by decide +kernel
theorem dX6_readBoth_23 : decode cX6_readBoth 23 = .ok (.getfield 12, 3) := by decide +kernel
theorem dX6_readBoth_26 : decode cX6_readBoth 26 = .ok (.invokevirtual 89, 3) := by decide +kernel
theorem dX6_readBoth_29 : decode cX6_readBoth 29 = .ok (.aload_n 0, 1) := by decide +kernel
theorem dX6_readBoth_30 : decode cX6_readBoth 30 = .ok (.invokevirtual 203, 3) := by decide +kernel
theorem dX6_readBoth_33 : decode cX6_readBoth 33 = .ok (.aload_n 0, 1) := by decide +kernel
theorem dX6_readBoth_34 : decode cX6_readBoth 34 = .ok (.bipush (-20), 2) := by decide +kernel
theorem dX6_readBoth_36 : decode cX6_readBoth 36 = .ok (.invokevirtual 200, 3) := by decide +kernel
theorem dX6_readBoth_39 : decode cX6_readBoth 39 = .ok (.iinc 1 1, 3) := by decide +kernel
theorem dX6_readBoth_42 : decode cX6_readBoth 42 = .ok (.goto (-36), 3) := by decide +kernel
theorem dX6_readBoth_45 : decode cX6_readBoth 45 = .ok (.return_, 1) := by decide +kernel
theorem dX6_readFact_0 : decode cX6_readFact 0 = .ok (.aload_n 0, 1) := by decide +kernel
theorem dX6_readFact_1 : decode cX6_readFact 1 = .ok (.bipush 24, 2) := by decide +kernel
theorem dX6_readFact_3 : decode cX6_readFact 3 = .ok (.invokevirtual 156, 3) := by decide +kernel
theorem dX6_readFact_6 : decode cX6_readFact 6 = .ok (.ifCond .eq 33, 3) := by decide +kernel
theorem dX6_readFact_9 : decode cX6_readFact 9 = .ok (.aload_n 0, 1) := by decide +kernel
theorem dX6_readFact_10 : decode cX6_readFact 10 = .ok (.invokevirtual 206, 3) := by decide +kernel
theorem dX6_readFact_13 : decode cX6_readFact 13 = .ok (.ifCond .eq 93, 3) := by decide +kernel
theorem dX6_readFact_16 : decode cX6_readFact 16 = .ok (.aload_n 0, 1) := by decide +kernel
theorem dX6_readFact_17 : decode cX6_readFact 17 = .ok (.invokevirtual 203, 3) := by decide +kernel
theorem dX6_readFact_20 : decode cX6_readFact 20 = .ok (.aload_n 0, 1) := by decide +kernel
theorem dX6_readFact_21 : decode cX6_readFact 21 = .ok (.dup, 1) := by decide +kernel
theorem dX6_readFact_22 : decode cX6_readFact 22 = .ok (.getfield 18, 3) := by decide +kernel
theorem dX6_readFact_25 : decode cX6_readFact 25 = .ok (.iconst 1, 1) := by decide +kernel
theorem dX6_readFact_26 : decode cX6_readFact 26 = .ok (.isub, 1) := by decide +kernel
theorem dX6_readFact_27 : decode cX6_readFact 27 = .ok (.putfield 18, 3) := by decide +kernel
theorem dX6_readFact_30 : decode cX6_readFact 30 = .ok (.aload_n 0, 1) := by decide +kernel
theorem dX6_readFact_31 : decode cX6_readFact 31 = .ok (.bipush (-22), 2) := by decide +kernel
theorem dX6_readFact_33 : decode cX6_readFact 33 = .ok (.invokevirtual 200, 3) := by decide +kernel
theorem dX6_readFact_36 : decode cX6_readFact 36 = .ok (.goto 70, 3) := by decide +kernel
theorem dX6_readFact_39 : decode cX6_readFact 39 = .ok (.aload_n 0, 1) := by decide +kernel
theorem dX6_readFact_40 : decode cX6_readFact 40 = .ok (.bipush 91, 2) := by decide +kernel
theorem dX6_readFact_42 : decode cX6_readFact 42 = .ok (.invokevirtual 85, 3) := by decide +kernel
theorem dX6_readFact_45 : decode cX6_readFact 45 = .ok (.ifCond .eq 33, 3) := by decide +kernel
theorem dX6_readFact_48 : decode cX6_readFact 48 = .ok (.aload_n 0, 1) := by decide +kernel
theorem dX6_readFact_49 : decode cX6_readFact 49 = .ok (.invokevirtual 206, 3) := by decide +kernel
theorem dX6_readFact_52 : decode cX6_readFact 52 = .ok (.ifCond .eq 54, 3) := by decide +kernel
theorem dX6_readFact_55 : decode cX6_readFact 55 = .ok (.aload_n 0, 1) := by decide +kernel
theorem dX6_readFact_56 : decode cX6_readFact 56 = .ok (.invokevirtual 183, 3) := by decide +kernel
theorem dX6_readFact_59 : decode cX6_readFact 59 = .ok (.aload_n 0, 1) := by decide +kernel
theorem dX6_readFact_60 : decode cX6_readFact 60 = .ok (.dup, 1) := by decide +kernel
theorem dX6_readFact_61 : decode cX6_readFact 61 = .ok (.getfield 18, 3) := by decide +kernel
theorem dX6_readFact_64 : decode cX6_readFact 64 = .ok (.iconst 1, 1) := by decide +kernel
theorem dX6_readFact_65 : decode cX6_readFact 65 = .ok (.isub, 1) := by decide +kernel
theorem dX6_readFact_66 : decode cX6_readFact 66 = .ok (.putfield 18, 3) := by decide +kernel
theorem dX6_readFact_69 : decode cX6_readFact 69 = .ok (.aload_n 0, 1) := by decide +kernel
theorem dX6_readFact_70 : decode cX6_readFact 70 = .ok (.bipush 93, 2) := by decide +kernel
theorem dX6_readFact_72 : decode cX6_readFact 72 = .ok (.invokevirtual 128, 3) := by decide +kernel
theorem dX6_readFact_75 : decode cX6_readFact 75 = .ok (.goto 31, 3) := by decide +kernel
theorem dX6_readFact_78 : decode cX6_readFact 78 = .ok (.aload_n 0, 1) := by decide +kernel
theorem dX6_readFact_79 : decode cX6_readFact 79 = .ok (.bipush 25, 2) := by decide +kernel
theorem dX6_readFact_81 : decode cX6_readFact 81 = .ok (.invokevirtual 156, 3) := by decide +kernel
theorem dX6_readFact_84 : decode cX6_readFact 84 = .ok (.ifCond .eq 18, 3) := by decide +kernel
theorem dX6_readFact_87 : decode cX6_readFact 87 = .ok (.aload_n 0, 1) := by decide +kernel
theorem dX6_readFact_88 : decode cX6_readFact 88 = .ok (.iconst 1, 1) := by decide +kernel
theorem dX6_readFact_89 : decode cX6_readFact 89 = .ok (.invokevirtual 200, 3) := by decide +kernel
theorem dX6_readFact_92 : decode cX6_readFact 92 = .ok (.aload_n 0, 1) := by decide +kernel
theorem dX6_readFact_93 : decode cX6_readFact 93 = .ok (.getfield 12, 3) := by decide +kernel
theorem dX6_readFact_96 : decode cX6_readFact 96 = .ok (.invokevirtual 89, 3) := by decide +kernel
theorem dX6_readFact_99 : decode cX6_readFact 99 = .ok (.goto 7, 3) := by decide +kernel
theorem dX6_readFact_102 : decode cX6_readFact 102 = .ok (.aload_n 0, 1) := by decide +kernel
theorem dX6_readFact_103 : decode cX6_readFact 103 = .ok (.invokevirtual 209, 3) := by decide +kernel
theorem dX6_readFact_106 : decode cX6_readFact 106 = .ok (.return_, 1) := by decide +kernel
