theorem d_Wishes_isBetter_10 : decode prog_12_method_3_code 10 = .ok (.iload_n 1, 1) := by decide +kernel
theorem d_Wishes_isBetter_11 : decode prog_12_method_3_code 11 = .ok (.invokestatic 54, 3) := by decide +kernel
theorem d_Wishes_isBetter_14 : decode prog_12_method_3_code 14 = .ok (.iload_n 3, 1) := by decide +kernel
theorem d_Wishes_isBetter_15 : decode prog_12_method_3_code 15 = .ok (.invokestatic 54, 3) := by decide +kernel
theorem d_Wishes_isBetter_18 : decode prog_12_method_3_code 18 = .ok (.if_icmp .ge 7, 3) := by decide +kernel
theorem d_Wishes_isBetter_21 : decode prog_12_method_3_code 21 = .ok (.iconst 1, 1) := by decide +kernel
theorem d_Wishes_isBetter_22 : decode prog_12_method_3_code 22 = .ok (.goto 4, 3) := by decide +kernel
theorem d_Wishes_isBetter_25 : decode prog_12_method_3_code 25 = .ok (.iconst 0, 1) := by decide +kernel
theorem d_Wishes_isBetter_26 : decode prog_12_method_3_code 26 = .ok (.ireturn, 1) := by decide +kernel
theorem d_Wishes_boysFor_0 : decode prog_12_method_4_code 0 = .ok (.aload_n 0, 1) := by decide +kernel
theorem d_Wishes_boysFor_1 : decode prog_12_method_4_code 1 = .ok (.getfield 15, 3) := by decide +kernel
theorem d_Wishes_boysFor_4 : decode prog_12_method_4_code 4 = .ok (.aload_n 0, 1) := by decide +kernel
theorem d_Wishes_boysFor_5 : decode prog_12_method_4_code 5 = .ok (.getfield 9, 3) := by decide +kernel
theorem d_Wishes_boysFor_8 : decode prog_12_method_4_code 8 = .ok (.invokevirtual 23, 3) := by decide +kernel
theorem d_Wishes_boysFor_11 : decode prog_12_method_4_code 11 = .ok (.aload_n 0, 1) := by decide +kernel
theorem d_Wishes_boysFor_12 : decode prog_12_method_4_code 12 = .ok (.getfield 15, 3) := by decide +kernel
theorem d_Wishes_boysFor_15 : decode prog_12_method_4_code 15 = .ok (.iload_n 2, 1) := by decide +kernel
theorem d_Wishes_boysFor_16 : decode prog_12_method_4_code 16 = .ok (.iconst 5, 1) := by decide +kernel
theorem d_Wishes_boysFor_17 : decode prog_12_method_4_code 17 = .ok (.invokevirtual 61, 3) := by decide +kernel
theorem d_Wishes_boysFor_20 : decode prog_12_method_4_code 20 = .ok (.pop, 1) := by decide +kernel
theorem d_Wishes_boysFor_21 : decode prog_12_method_4_code 21 = .ok (.aload_n 0, 1) := by decide +kernel
theorem d_Wishes_boysFor_22 : decode prog_12_method_4_code 22 = .ok (.getfield 15, 3) := by decide +kernel
theorem d_Wishes_boysFor_25 : decode prog_12_method_4_code 25 = .ok (.iload_n 1, 1) := by decide +kernel
theorem d_Wishes_boysFor_26 : decode prog_12_method_4_code 26 = .ok (.invokevirtual 64, 3) := by decide +kernel
theorem d_Wishes_boysFor_29 : decode prog_12_method_4_code 29 = .ok (.bipush (-2), 2) := by decide +kernel
theorem d_Wishes_boysFor_31 : decode prog_12_method_4_code 31 = .ok (.if_icmp .eq 6, 3) := by decide +kernel
theorem d_Wishes_boysFor_34 : decode prog_12_method_4_code 34 = .ok (.bipush (-2), 2) := by decide +kernel
theorem d_Wishes_boysFor_36 : decode prog_12_method_4_code 36 = .ok (.ireturn, 1) := by decide +kernel
theorem d_Wishes_boysFor_37 : decode prog_12_method_4_code 37 = .ok (.iconst 0, 1) := by decide +kernel
theorem d_Wishes_boysFor_38 : decode prog_12_method_4_code 38 = .ok (.istore 4, 2) := by decide +kernel
theorem d_Wishes_boysFor_40 : decode prog_12_method_4_code 40 = .ok (.iload 4, 2) := by decide +kernel
theorem d_Wishes_boysFor_42 : decode prog_12_method_4_code 42 = .ok (.iconst 3, 1) := by decide +kernel
theorem d_Wishes_boysFor_43 : decode prog_12_method_4_code 43 = .ok (.if_icmp .gt 48, 3) := by decide +kernel
theorem d_Wishes_boysFor_46 : decode prog_12_method_4_code 46 = .ok (.aload_n 0, 1) := by decide +kernel
theorem d_Wishes_boysFor_47 : decode prog_12_method_4_code 47 = .ok (.iload_n 1, 1) := by decide +kernel
theorem d_Wishes_boysFor_48 : decode prog_12_method_4_code 48 = .ok (.iload_n 2, 1) := by decide +kernel
theorem d_Wishes_boysFor_49 : decode prog_12_method_4_code 49 = .ok (.iload 4, 2) := by decide +kernel
theorem d_Wishes_boysFor_51 : decode prog_12_method_4_code 51 = .ok (.invokevirtual 67, 3) := by decide +kernel
theorem d_Wishes_boysFor_54 : decode prog_12_method_4_code 54 = .ok (.istore 5, 2) := by decide +kernel
theorem d_Wishes_boysFor_56 : decode prog_12_method_4_code 56 = .ok (.iload 5, 2) := by decide +kernel
theorem d_Wishes_boysFor_58 : decode prog_12_method_4_code 58 = .ok (.bipush (-2), 2) := by decide +kernel
theorem d_Wishes_boysFor_60 : decode prog_12_method_4_code 60 = .ok (.if_icmp .ne 6, 3) := by decide +kernel
theorem d_Wishes_boysFor_63 : decode prog_12_method_4_code 63 = .ok (.goto 22, 3) := by decide +kernel
theorem d_Wishes_boysFor_66 : decode prog_12_method_4_code 66 = .ok (.iload_n 3, 1) := by decide +kernel
theorem d_Wishes_boysFor_67 : decode prog_12_method_4_code 67 = .ok (.ifCond .ne 6, 3) := by decide +kernel
theorem d_Wishes_boysFor_70 : decode prog_12_method_4_code 70 = .ok (.iload 4, 2) := by decide +kernel
theorem d_Wishes_boysFor_72 : decode prog_12_method_4_code 72 = .ok (.ireturn, 1) := by decide +kernel
theorem d_Wishes_boysFor_73 : decode prog_12_method_4_code 73 = .ok (.iload 4, 2) := by decide +kernel
theorem d_Wishes_boysFor_75 : decode prog_12_method_4_code 75 = .ok (.ifCond .ne 7, 3) := by decide +kernel
theorem d_Wishes_boysFor_78 : decode prog_12_method_4_code 78 = .ok (.iconst 0, 1) := by decide +kernel
theorem d_Wishes_boysFor_79 : decode prog_12_method_4_code 79 = .ok (.goto 5, 3) := by decide +kernel
theorem d_Wishes_boysFor_82 : decode prog_12_method_4_code 82 = .ok (.iload 5, 2) := by decide +kernel
theorem d_Wishes_boysFor_84 : decode prog_12_method_4_code 84 = .ok (.ireturn, 1) := by decide +kernel
theorem d_Wishes_boysFor_85 : decode prog_12_method_4_code 85 = .ok (.iinc 4 1, 3) := by decide +kernel
theorem d_Wishes_boysFor_88 : decode prog_12_method_4_code 88 = .ok (.goto (-48), 3) := by decide +kernel
theorem d_Wishes_boysFor_91 : decode prog_12_method_4_code 91 = .ok (.bipush (-2), 2) := by decide +kernel
theorem d_Wishes_boysFor_93 : decode prog_12_method_4_code 93 = .ok (.ireturn, 1) := by decide +kernel
theorem d_Wishes_heightOfBoys_0 : decode prog_12_method_5_code 0 = .ok (.aload_n 0, 1) := by decide +kernel
theorem d_Wishes_heightOfBoys_1 : decode prog_12_method_5_code 1 = .ok (.getfield 15, 3) := by decide +kernel
theorem d_Wishes_heightOfBoys_4 : decode prog_12_method_5_code 4 = .ok (.invokevirtual 71, 3) := by decide +kernel
theorem d_Wishes_heightOfBoys_7 : decode prog_12_method_5_code 7 = .ok (.astore 4, 2) := by decide +kernel
theorem d_Wishes_heightOfBoys_9 : decode prog_12_method_5_code 9 = .ok (.aload 4, 2) := by decide +kernel
theorem d_Wishes_heightOfBoys_11 : decode prog_12_method_5_code 11 = .ok (.aload_n 0, 1) := by decide +kernel
theorem d_Wishes_heightOfBoys_12 : decode prog_12_method_5_code 12 = .ok (.getfield 9, 3) := by decide +kernel
theorem d_Wishes_heightOfBoys_15 : decode prog_12_method_5_code 15 = .ok (.invokevirtual 75, 3) := by decide +kernel
theorem d_Wishes_heightOfBoys_18 : decode prog_12_method_5_code 18 = .ok (.invokevirtual 78, 3) := by decide +kernel
theorem d_Wishes_heightOfBoys_21 : decode prog_12_method_5_code 21 = .ok (.iconst 0, 1) := by decide +kernel
theorem d_Wishes_heightOfBoys_22 : decode prog_12_method_5_code 22 = .ok (.istore 5, 2) := by decide +kernel
theorem d_Wishes_heightOfBoys_24 : decode prog_12_method_5_code 24 = .ok (.iload 5, 2) := by decide +kernel
theorem d_Wishes_heightOfBoys_26 : decode prog_12_method_5_code 26 = .ok (.iload_n 3, 1) := by decide +kernel
theorem d_Wishes_heightOfBoys_27 : decode prog_12_method_5_code 27 = .ok (.if_icmp .ge 19, 3) := by decide +kernel
theorem d_Wishes_heightOfBoys_30 : decode prog_12_method_5_code 30 = .ok (.aload 4, 2) := by decide +kernel
theorem d_Wishes_heightOfBoys_32 : decode prog_12_method_5_code 32 = .ok (.bipush 100, 2) := by decide +kernel
theorem d_Wishes_heightOfBoys_34 : decode prog_12_method_5_code 34 = .ok (.iload_n 2, 1) := by decide +kernel
theorem d_Wishes_heightOfBoys_35 : decode prog_12_method_5_code 35 = .ok (.iconst 1, 1) := by decide +kernel
theorem d_Wishes_heightOfBoys_36 : decode prog_12_method_5_code 36 = .ok (.invokevirtual 81, 3) := by decide +kernel
theorem d_Wishes_heightOfBoys_39 : decode prog_12_method_5_code 39 = .ok (.pop, 1) := by decide +kernel
theorem d_Wishes_heightOfBoys_40 : decode prog_12_method_5_code 40 = .ok (.iinc 5 1, 3) := by decide +kernel
theorem d_Wishes_heightOfBoys_43 : decode prog_12_method_5_code 43 = .ok (.goto (-19), 3) := by decide +kernel
theorem d_Wishes_heightOfBoys_46 : decode prog_12_method_5_code 46 = .ok (.aload_n 0, 1) := by decide +kernel
theorem d_Wishes_heightOfBoys_47 : decode prog_12_method_5_code 47 = .ok (.getfield 15, 3) := by decide +kernel
theorem d_Wishes_heightOfBoys_50 : decode prog_12_method_5_code 50 = .ok (.invokevirtual 84, 3) := by decide +kernel
theorem d_Wishes_heightOfBoys_53 : decode prog_12_method_5_code 53 = .ok (.aload 4, 2) := by decide +kernel
theorem d_Wishes_heightOfBoys_55 : decode prog_12_method_5_code 55 = .ok (.invokevirtual 42, 3) := by decide +kernel
theorem d_Wishes_heightOfBoys_58 : decode prog_12_method_5_code 58 = .ok (.aload_n 0, 1) := by decide +kernel
theorem d_Wishes_heightOfBoys_59 : decode prog_12_method_5_code 59 = .ok (.getfield 9, 3) := by decide +kernel
theorem d_Wishes_heightOfBoys_62 : decode prog_12_method_5_code 62 = .ok (.invokevirtual 42, 3) := by decide +kernel
theorem d_Wishes_heightOfBoys_65 : decode prog_12_method_5_code 65 = .ok (.iconst (-1), 1) := by decide +kernel
theorem d_Wishes_heightOfBoys_66 : decode prog_12_method_5_code 66 = .ok (.ixor, 1) := by decide +kernel
theorem d_Wishes_heightOfBoys_67 : decode prog_12_method_5_code 67 = .ok (.iand, 1) := by decide +kernel
theorem d_Wishes_heightOfBoys_68 : decode prog_12_method_5_code 68 = .ok (.ior, 1) := by decide +kernel
theorem d_Wishes_heightOfBoys_69 : decode prog_12_method_5_code 69 = .ok (.istore 5, 2) := by decide +kernel
theorem d_Wishes_heightOfBoys_71 : decode prog_12_method_5_code 71 = .ok (.aload 4, 2) := by decide +kernel
theorem d_Wishes_heightOfBoys_73 : decode prog_12_method_5_code 73 = .ok (.iload_n 2, 1) := by decide +kernel
theorem d_Wishes_heightOfBoys_74 : decode prog_12_method_5_code 74 = .ok (.iload 5, 2) := by decide +kernel
theorem d_Wishes_heightOfBoys_76 : decode prog_12_method_5_code 76 = .ok (.invokevirtual 87, 3) := by decide +kernel
theorem d_Wishes_heightOfBoys_79 : decode prog_12_method_5_code 79 = .ok (.istore 6, 2) := by decide +kernel
theorem d_Wishes_heightOfBoys_81 : decode prog_12_method_5_code 81 = .ok (.iload 6, 2) := by decide +kernel
theorem d_Wishes_heightOfBoys_83 : decode prog_12_method_5_code 83 = .ok (.invokestatic 54, 3) := by decide +kernel
theorem d_Wishes_heightOfBoys_86 : decode prog_12_method_5_code 86 = .ok (.iconst 2, 1) := by decide +kernel
theorem d_Wishes_heightOfBoys_87 : decode prog_12_method_5_code 87 = .ok (.irem, 1) := by decide +kernel
theorem d_Wishes_heightOfBoys_88 : decode prog_12_method_5_code 88 = .ok (.ifCond .ne 6, 3) := by decide +kernel
theorem d_Wishes_heightOfBoys_91 : decode prog_12_method_5_code 91 = .ok (.bipush (-2), 2) := by decide +kernel
theorem d_Wishes_heightOfBoys_93 : decode prog_12_method_5_code 93 = .ok (.ireturn, 1) := by decide +kernel
theorem d_Wishes_heightOfBoys_94 : decode prog_12_method_5_code 94 = .ok (.iload_n 3, 1) := by decide +kernel
theorem d_Wishes_heightOfBoys_95 : decode prog_12_method_5_code 95 = .ok (.ifCond .ne 8, 3) := by decide +kernel
theorem d_Wishes_heightOfBoys_98 : decode prog_12_method_5_code 98 = .ok (.bipush 100, 2) := by decide +kernel
theorem d_Wishes_heightOfBoys_100 : decode prog_12_method_5_code 100 = .ok (.goto 6, 3) := by decide +kernel
theorem d_Wishes_heightOfBoys_103 : decode prog_12_method_5_code 103 = .ok (.sipush 220, 3) := by decide +kernel
theorem d_Wishes_heightOfBoys_106 : decode prog_12_method_5_code 106 = .ok (.istore 7, 2) := by decide +kernel
theorem d_Wishes_heightOfBoys_108 : decode prog_12_method_5_code 108 = .ok (.bipush 100, 2) := by decide +kernel
theorem d_Wishes_heightOfBoys_110 : decode prog_12_method_5_code 110 = .ok (.istore 8, 2) := by decide +kernel
theorem d_Wishes_heightOfBoys_112 : decode prog_12_method_5_code 112 = .ok (.iload 8, 2) := by decide +kernel
theorem d_Wishes_heightOfBoys_114 : decode prog_12_method_5_code 114 = .ok (.iload 7, 2) := by decide +kernel
theorem d_Wishes_heightOfBoys_116 : decode prog_12_method_5_code 116 = .ok (.if_icmp .gt 64, 3) := by decide +kernel
theorem d_Wishes_heightOfBoys_119 : decode prog_12_method_5_code 119 = .ok (.aload_n 0, 1) := by decide +kernel
theorem d_Wishes_heightOfBoys_120 : decode prog_12_method_5_code 120 = .ok (.getfield 9, 3) := by decide +kernel
theorem d_Wishes_heightOfBoys_123 : decode prog_12_method_5_code 123 = .ok (.invokevirtual 75, 3) := by decide +kernel
theorem d_Wishes_heightOfBoys_126 : decode prog_12_method_5_code 126 = .ok (.istore 9, 2) := by decide +kernel
theorem d_Wishes_heightOfBoys_128 : decode prog_12_method_5_code 128 = .ok (.iload 9, 2) := by decide +kernel
theorem d_Wishes_heightOfBoys_130 : decode prog_12_method_5_code 130 = .ok (.aload 4, 2) := by decide +kernel
theorem d_Wishes_heightOfBoys_132 : decode prog_12_method_5_code 132 = .ok (.invokevirtual 75, 3) := by decide +kernel
theorem d_Wishes_heightOfBoys_135 : decode prog_12_method_5_code 135 = .ok (.if_icmp .ge 19, 3) := by decide +kernel
theorem d_Wishes_heightOfBoys_138 : decode prog_12_method_5_code 138 = .ok (.aload 4, 2) := by decide +kernel
theorem d_Wishes_heightOfBoys_140 : decode prog_12_method_5_code 140 = .ok (.iconst 0, 1) := by decide +kernel
theorem d_Wishes_heightOfBoys_141 : decode prog_12_method_5_code 141 = .ok (.iload 9, 2) := by decide +kernel
theorem d_Wishes_heightOfBoys_143 : decode prog_12_method_5_code 143 = .ok (.iload 8, 2) := by decide +kernel
theorem d_Wishes_heightOfBoys_145 : decode prog_12_method_5_code 145 = .ok (.invokevirtual 90, 3) := by decide +kernel
theorem d_Wishes_heightOfBoys_148 : decode prog_12_method_5_code 148 = .ok (.iinc 9 1, 3) := by decide +kernel
theorem d_Wishes_heightOfBoys_151 : decode prog_12_method_5_code 151 = .ok (.goto (-23), 3) := by decide +kernel
theorem d_Wishes_heightOfBoys_154 : decode prog_12_method_5_code 154 = .ok (.aload_n 0, 1) := by decide +kernel
theorem d_Wishes_heightOfBoys_155 : decode prog_12_method_5_code 155 = .ok (.getfield 19, 3) := by decide +kernel
theorem d_Wishes_heightOfBoys_158 : decode prog_12_method_5_code 158 = .ok (.aload 4, 2) := by decide +kernel
theorem d_Wishes_heightOfBoys_160 : decode prog_12_method_5_code 160 = .ok (.iload_n 2, 1) := by decide +kernel
theorem d_Wishes_heightOfBoys_161 : decode prog_12_method_5_code 161 = .ok (.iload 6, 2) := by decide +kernel
theorem d_Wishes_heightOfBoys_163 : decode prog_12_method_5_code 163 = .ok (.iconst 5, 1) := by decide +kernel
theorem d_Wishes_heightOfBoys_164 : decode prog_12_method_5_code 164 = .ok (.invokevirtual 94, 3) := by decide +kernel
theorem d_Wishes_heightOfBoys_167 : decode prog_12_method_5_code 167 = .ok (.iload_n 1, 1) := by decide +kernel
theorem d_Wishes_heightOfBoys_168 : decode prog_12_method_5_code 168 = .ok (.if_icmp .ne 6, 3) := by decide +kernel
theorem d_Wishes_heightOfBoys_171 : decode prog_12_method_5_code 171 = .ok (.iload 8, 2) := by decide +kernel
theorem d_Wishes_heightOfBoys_173 : decode prog_12_method_5_code 173 = .ok (.ireturn, 1) := by decide +kernel
theorem d_Wishes_heightOfBoys_174 : decode prog_12_method_5_code 174 = .ok (.iinc 8 1, 3) := by decide +kernel
theorem d_Wishes_heightOfBoys_177 : decode prog_12_method_5_code 177 = .ok (.goto (-65), 3) := by decide +kernel
theorem d_Wishes_heightOfBoys_180 : decode prog_12_method_5_code 180 = .ok (.bipush (-2), 2) := by decide +kernel
theorem d_Wishes_heightOfBoys_182 : decode prog_12_method_5_code 182 = .ok (.ireturn, 1) := by decide +kernel
theorem d_Wishes_heelsFor_0 : decode prog_12_method_6_code 0 = .ok (.aload_n 0, 1) := by decide +kernel
theorem d_Wishes_heelsFor_1 : decode prog_12_method_6_code 1 = .ok (.getfield 15, 3) := by decide +kernel
theorem d_Wishes_heelsFor_4 : decode prog_12_method_6_code 4 = .ok (.aload_n 0, 1) := by decide +kernel
theorem d_Wishes_heelsFor_5 : decode prog_12_method_6_code 5 = .ok (.getfield 9, 3) := by decide +kernel
theorem d_Wishes_heelsFor_8 : decode prog_12_method_6_code 8 = .ok (.invokevirtual 23, 3) := by decide +kernel
theorem d_Wishes_heelsFor_11 : decode prog_12_method_6_code 11 = .ok (.iconst 0, 1) := by decide +kernel
theorem d_Wishes_heelsFor_12 : decode prog_12_method_6_code 12 = .ok (.istore 4, 2) := by decide +kernel
theorem d_Wishes_heelsFor_14 : decode prog_12_method_6_code 14 = .ok (.bipush (-2), 2) := by decide +kernel
theorem d_Wishes_heelsFor_16 : decode prog_12_method_6_code 16 = .ok (.istore 5, 2) := by decide +kernel
theorem d_Wishes_heelsFor_18 : decode prog_12_method_6_code 18 = .ok (.bipush (-2), 2) := by decide +kernel
theorem d_Wishes_heelsFor_20 : decode prog_12_method_6_code 20 = .ok (.istore 6, 2) := by decide +kernel
theorem d_Wishes_heelsFor_22 : decode prog_12_method_6_code 22 = .ok (.iload_n 2, 1) := by decide +kernel
theorem d_Wishes_heelsFor_23 : decode prog_12_method_6_code 23 = .ok (.istore 7, 2) := by decide +kernel
theorem d_Wishes_heelsFor_25 : decode prog_12_method_6_code 25 = .ok (.iconst 0, 1) := by decide +kernel
theorem d_Wishes_heelsFor_26 : decode prog_12_method_6_code 26 = .ok (.istore 8, 2) := by decide +kernel
theorem d_Wishes_heelsFor_28 : decode prog_12_method_6_code 28 = .ok (.iload 8, 2) := by decide +kernel
theorem d_Wishes_heelsFor_30 : decode prog_12_method_6_code 30 = .ok (.bipush 20, 2) := by decide +kernel
theorem d_Wishes_heelsFor_32 : decode prog_12_method_6_code 32 = .ok (.if_icmp .gt 76, 3) := by decide +kernel
theorem d_Wishes_heelsFor_35 : decode prog_12_method_6_code 35 = .ok (.aload_n 0, 1) := by decide +kernel
theorem d_Wishes_heelsFor_36 : decode prog_12_method_6_code 36 = .ok (.getfield 15, 3) := by decide +kernel
theorem d_Wishes_heelsFor_39 : decode prog_12_method_6_code 39 = .ok (.iconst 3, 1) := by decide +kernel
theorem d_Wishes_heelsFor_40 : decode prog_12_method_6_code 40 = .ok (.iload_n 1, 1) := by decide +kernel
theorem d_Wishes_heelsFor_41 : decode prog_12_method_6_code 41 = .ok (.iload 8, 2) := by decide +kernel
theorem d_Wishes_heelsFor_43 : decode prog_12_method_6_code 43 = .ok (.invokevirtual 98, 3) := by decide +kernel
theorem d_Wishes_heelsFor_46 : decode prog_12_method_6_code 46 = .ok (.aload_n 0, 1) := by decide +kernel
theorem d_Wishes_heelsFor_47 : decode prog_12_method_6_code 47 = .ok (.getfield 15, 3) := by decide +kernel
theorem d_Wishes_heelsFor_50 : decode prog_12_method_6_code 50 = .ok (.iload_n 1, 1) := by decide +kernel
theorem d_Wishes_heelsFor_51 : decode prog_12_method_6_code 51 = .ok (.iload_n 2, 1) := by decide +kernel
theorem d_Wishes_heelsFor_52 : decode prog_12_method_6_code 52 = .ok (.invokevirtual 50, 3) := by decide +kernel
theorem d_Wishes_heelsFor_55 : decode prog_12_method_6_code 55 = .ok (.istore 9, 2) := by decide +kernel
theorem d_Wishes_heelsFor_57 : decode prog_12_method_6_code 57 = .ok (.iload 9, 2) := by decide +kernel
theorem d_Wishes_heelsFor_59 : decode prog_12_method_6_code 59 = .ok (.bipush (-2), 2) := by decide +kernel
theorem d_Wishes_heelsFor_61 : decode prog_12_method_6_code 61 = .ok (.if_icmp .ne 6, 3) := by decide +kernel
theorem d_Wishes_heelsFor_64 : decode prog_12_method_6_code 64 = .ok (.goto 38, 3) := by decide +kernel
theorem d_Wishes_heelsFor_67 : decode prog_12_method_6_code 67 = .ok (.iload 4, 2) := by decide +kernel
theorem d_Wishes_heelsFor_69 : decode prog_12_method_6_code 69 = .ok (.iconst 1, 1) := by decide +kernel
theorem d_Wishes_heelsFor_70 : decode prog_12_method_6_code 70 = .ok (.iload 8, 2) := by decide +kernel
theorem d_Wishes_heelsFor_72 : decode prog_12_method_6_code 72 = .ok (.ishl, 1) := by decide +kernel
theorem d_Wishes_heelsFor_73 : decode prog_12_method_6_code 73 = .ok (.ior, 1) := by decide +kernel
theorem d_Wishes_heelsFor_74 : decode prog_12_method_6_code 74 = .ok (.istore 4, 2) := by decide +kernel
theorem d_Wishes_heelsFor_76 : decode prog_12_method_6_code 76 = .ok (.iload 5, 2) := by decide +kernel
theorem d_Wishes_heelsFor_78 : decode prog_12_method_6_code 78 = .ok (.bipush (-2), 2) := by decide +kernel
theorem d_Wishes_heelsFor_80 : decode prog_12_method_6_code 80 = .ok (.if_icmp .ne 7, 3) := by decide +kernel
theorem d_Wishes_heelsFor_83 : decode prog_12_method_6_code 83 = .ok (.iload 8, 2) := by decide +kernel
theorem d_Wishes_heelsFor_85 : decode prog_12_method_6_code 85 = .ok (.istore 5, 2) := by decide +kernel
theorem d_Wishes_heelsFor_87 : decode prog_12_method_6_code 87 = .ok (.iload 9, 2) := by decide +kernel
theorem d_Wishes_heelsFor_89 : decode prog_12_method_6_code 89 = .ok (.iload 7, 2) := by decide +kernel
theorem d_Wishes_heelsFor_91 : decode prog_12_method_6_code 91 = .ok (.if_icmp .ge 11, 3) := by decide +kernel
theorem d_Wishes_heelsFor_94 : decode prog_12_method_6_code 94 = .ok (.iload 9, 2) := by decide +kernel
theorem d_Wishes_heelsFor_96 : decode prog_12_method_6_code 96 = .ok (.istore 7, 2) := by decide +kernel
theorem d_Wishes_heelsFor_98 : decode prog_12_method_6_code 98 = .ok (.iload 8, 2) := by decide +kernel
theorem d_Wishes_heelsFor_100 : decode prog_12_method_6_code 100 = .ok (.istore 6, 2) := by decide +kernel
theorem d_Wishes_heelsFor_102 : decode prog_12_method_6_code 102 = .ok (.iinc 8 1, 3) := by decide +kernel
theorem d_Wishes_heelsFor_105 : decode prog_12_method_6_code 105 = .ok (.goto (-77), 3) := by decide +kernel
theorem d_Wishes_heelsFor_108 : decode prog_12_method_6_code 108 = .ok (.iload_n 3, 1) := by decide +kernel
theorem d_Wishes_heelsFor_109 : decode prog_12_method_6_code 109 = .ok (.iconst 2, 1) := by decide +kernel
theorem d_Wishes_heelsFor_110 : decode prog_12_method_6_code 110 = .ok (.if_icmp .ne 6, 3) := by decide +kernel
theorem d_Wishes_heelsFor_113 : decode prog_12_method_6_code 113 = .ok (.iload 4, 2) := by decide +kernel
theorem d_Wishes_heelsFor_115 : decode prog_12_method_6_code 115 = .ok (.ireturn, 1) := by decide +kernel
theorem d_Wishes_heelsFor_116 : decode prog_12_method_6_code 116 = .ok (.iload_n 3, 1) := by decide +kernel
theorem d_Wishes_heelsFor_117 : decode prog_12_method_6_code 117 = .ok (.ifCond .ne 8, 3) := by decide +kernel
theorem d_Wishes_heelsFor_120 : decode prog_12_method_6_code 120 = .ok (.iload 5, 2) := by decide +kernel
theorem d_Wishes_heelsFor_122 : decode prog_12_method_6_code 122 = .ok (.goto 5, 3) := by decide +kernel
theorem d_Wishes_heelsFor_125 : decode prog_12_method_6_code 125 = .ok (.iload 6, 2) := by decide +kernel
theorem d_Wishes_heelsFor_127 : decode prog_12_method_6_code 127 = .ok (.ireturn, 1) := by decide +kernel
theorem d_Wishes_comesBest_0 : decode prog_12_method_7_code 0 = .ok (.aload_n 0, 1) := by decide +kernel
theorem d_Wishes_comesBest_1 : decode prog_12_method_7_code 1 = .ok (.getfield 15, 3) := by decide +kernel
theorem d_Wishes_comesBest_4 : decode prog_12_method_7_code 4 = .ok (.aload_n 0, 1) := by decide +kernel
theorem d_Wishes_comesBest_5 : decode prog_12_method_7_code 5 = .ok (.getfield 9, 3) := by decide +kernel
theorem d_Wishes_comesBest_8 : decode prog_12_method_7_code 8 = .ok (.invokevirtual 23, 3) := by decide +kernel
theorem d_Wishes_comesBest_11 : decode prog_12_method_7_code 11 = .ok (.bipush (-2), 2) := by decide +kernel
theorem d_Wishes_comesBest_13 : decode prog_12_method_7_code 13 = .ok (.istore_n 2, 1) := by decide +kernel
theorem d_Wishes_comesBest_14 : decode prog_12_method_7_code 14 = .ok (.bipush 100, 2) := by decide +kernel
theorem d_Wishes_comesBest_16 : decode prog_12_method_7_code 16 = .ok (.istore_n 3, 1) := by decide +kernel
theorem d_Wishes_comesBest_17 : decode prog_12_method_7_code 17 = .ok (.iconst 0, 1) := by decide +kernel
theorem d_Wishes_comesBest_18 : decode prog_12_method_7_code 18 = .ok (.istore 4, 2) := by decide +kernel
theorem d_Wishes_comesBest_20 : decode prog_12_method_7_code 20 = .ok (.iload 4, 2) := by decide +kernel
theorem d_Wishes_comesBest_22 : decode prog_12_method_7_code 22 = .ok (.bipush 100, 2) := by decide +kernel
theorem d_Wishes_comesBest_24 : decode prog_12_method_7_code 24 = .ok (.if_icmp .ge 58, 3) := by decide +kernel
theorem d_Wishes_comesBest_27 : decode prog_12_method_7_code 27 = .ok (.aload_n 0, 1) := by decide +kernel
theorem d_Wishes_comesBest_28 : decode prog_12_method_7_code 28 = .ok (.getfield 15, 3) := by decide +kernel
theorem d_Wishes_comesBest_31 : decode prog_12_method_7_code 31 = .ok (.iconst 1, 1) := by decide +kernel
theorem d_Wishes_comesBest_32 : decode prog_12_method_7_code 32 = .ok (.iload_n 1, 1) := by decide +kernel
theorem d_Wishes_comesBest_33 : decode prog_12_method_7_code 33 = .ok (.iload 4, 2) := by decide +kernel
theorem d_Wishes_comesBest_35 : decode prog_12_method_7_code 35 = .ok (.invokevirtual 98, 3) := by decide +kernel
theorem d_Wishes_comesBest_38 : decode prog_12_method_7_code 38 = .ok (.aload_n 0, 1) := by decide +kernel
theorem d_Wishes_comesBest_39 : decode prog_12_method_7_code 39 = .ok (.getfield 15, 3) := by decide +kernel
theorem d_Wishes_comesBest_42 : decode prog_12_method_7_code 42 = .ok (.iload_n 1, 1) := by decide +kernel
theorem d_Wishes_comesBest_43 : decode prog_12_method_7_code 43 = .ok (.bipush 100, 2) := by decide +kernel
theorem d_Wishes_comesBest_45 : decode prog_12_method_7_code 45 = .ok (.iload 4, 2) := by decide +kernel
theorem d_Wishes_comesBest_47 : decode prog_12_method_7_code 47 = .ok (.iload_n 3, 1) := by decide +kernel
theorem d_Wishes_comesBest_48 : decode prog_12_method_7_code 48 = .ok (.iadd, 1) := by decide +kernel
theorem d_Wishes_comesBest_49 : decode prog_12_method_7_code 49 = .ok (.invokestatic 101, 3) := by decide +kernel
theorem d_Wishes_comesBest_52 : decode prog_12_method_7_code 52 = .ok (.invokevirtual 50, 3) := by decide +kernel
theorem d_Wishes_comesBest_55 : decode prog_12_method_7_code 55 = .ok (.istore 5, 2) := by decide +kernel
theorem d_Wishes_comesBest_57 : decode prog_12_method_7_code 57 = .ok (.iload 5, 2) := by decide +kernel
theorem d_Wishes_comesBest_59 : decode prog_12_method_7_code 59 = .ok (.bipush (-2), 2) := by decide +kernel
theorem d_Wishes_comesBest_61 : decode prog_12_method_7_code 61 = .ok (.if_icmp .ne 6, 3) := by decide +kernel
theorem d_Wishes_comesBest_64 : decode prog_12_method_7_code 64 = .ok (.goto 12, 3) := by decide +kernel
theorem d_Wishes_comesBest_67 : decode prog_12_method_7_code 67 = .ok (.iload 4, 2) := by decide +kernel
theorem d_Wishes_comesBest_69 : decode prog_12_method_7_code 69 = .ok (.istore_n 2, 1) := by decide +kernel
theorem d_Wishes_comesBest_70 : decode prog_12_method_7_code 70 = .ok (.iload 5, 2) := by decide +kernel
theorem d_Wishes_comesBest_72 : decode prog_12_method_7_code 72 = .ok (.iload 4, 2) := by decide +kernel
theorem d_Wishes_comesBest_74 : decode prog_12_method_7_code 74 = .ok (.isub, 1) := by decide +kernel
theorem d_Wishes_comesBest_75 : decode prog_12_method_7_code 75 = .ok (.istore_n 3, 1) := by decide +kernel
theorem d_Wishes_comesBest_76 : decode prog_12_method_7_code 76 = .ok (.iinc 4 1, 3) := by decide +kernel
theorem d_Wishes_comesBest_79 : decode prog_12_method_7_code 79 = .ok (.goto (-59), 3) := by decide +kernel
theorem d_Wishes_comesBest_82 : decode prog_12_method_7_code 82 = .ok (.iload_n 2, 1) := by decide +kernel
theorem d_Wishes_comesBest_83 : decode prog_12_method_7_code 83 = .ok (.ireturn, 1) := by decide +kernel
theorem d_Wishes_allChoose_0 : decode prog_12_method_8_code 0 = .ok (.aload_n 0, 1) := by decide +kernel
theorem d_Wishes_allChoose_1 : decode prog_12_method_8_code 1 = .ok (.getfield 15, 3) := by decide +kernel
theorem d_Wishes_allChoose_4 : decode prog_12_method_8_code 4 = .ok (.aload_n 0, 1) := by decide +kernel
theorem d_Wishes_allChoose_5 : decode prog_12_method_8_code 5 = .ok (.getfield 9, 3) := by decide +kernel
theorem d_Wishes_allChoose_8 : decode prog_12_method_8_code 8 = .ok (.invokevirtual 23, 3) := by decide +kernel
theorem d_Wishes_allChoose_11 : decode prog_12_method_8_code 11 = .ok (.aload_n 0, 1) := by decide +kernel
theorem d_Wishes_allChoose_12 : decode prog_12_method_8_code 12 = .ok (.getfield 15, 3) := by decide +kernel
theorem d_Wishes_allChoose_15 : decode prog_12_method_8_code 15 = .ok (.invokevirtual 71, 3) := by decide +kernel
theorem d_Wishes_allChoose_18 : decode prog_12_method_8_code 18 = .ok (.astore_n 2, 1) := by decide +kernel
theorem d_Wishes_allChoose_19 : decode prog_12_method_8_code 19 = .ok (.iconst 1, 1) := by decide +kernel
theorem d_Wishes_allChoose_20 : decode prog_12_method_8_code 20 = .ok (.istore_n 3, 1) := by decide +kernel
theorem d_Wishes_allChoose_21 : decode prog_12_method_8_code 21 = .ok (.iload_n 3, 1) := by decide +kernel
theorem d_Wishes_allChoose_22 : decode prog_12_method_8_code 22 = .ok (.bipush 20, 2) := by decide +kernel
theorem d_Wishes_allChoose_24 : decode prog_12_method_8_code 24 = .ok (.if_icmp .gt 86, 3) := by decide +kernel
theorem d_Wishes_allChoose_27 : decode prog_12_method_8_code 27 = .ok (.iconst 0, 1) := by decide +kernel
theorem d_Wishes_allChoose_28 : decode prog_12_method_8_code 28 = .ok (.istore 4, 2) := by decide +kernel
theorem d_Wishes_allChoose_30 : decode prog_12_method_8_code 30 = .ok (.iconst 0, 1) := by decide +kernel
theorem d_Wishes_allChoose_31 : decode prog_12_method_8_code 31 = .ok (.istore 5, 2) := by decide +kernel
theorem d_Wishes_allChoose_33 : decode prog_12_method_8_code 33 = .ok (.iload 5, 2) := by decide +kernel
theorem d_Wishes_allChoose_35 : decode prog_12_method_8_code 35 = .ok (.aload_n 2, 1) := by decide +kernel
theorem d_Wishes_allChoose_36 : decode prog_12_method_8_code 36 = .ok (.invokevirtual 75, 3) := by decide +kernel
theorem d_Wishes_allChoose_39 : decode prog_12_method_8_code 39 = .ok (.if_icmp .ge 45, 3) := by decide +kernel
theorem d_Wishes_allChoose_42 : decode prog_12_method_8_code 42 = .ok (.aload_n 2, 1) := by decide +kernel
theorem d_Wishes_allChoose_43 : decode prog_12_method_8_code 43 = .ok (.iconst 3, 1) := by decide +kernel
theorem d_Wishes_allChoose_44 : decode prog_12_method_8_code 44 = .ok (.iload 5, 2) := by decide +kernel
theorem d_Wishes_allChoose_46 : decode prog_12_method_8_code 46 = .ok (.invokevirtual 106, 3) := by decide +kernel
theorem d_Wishes_allChoose_49 : decode prog_12_method_8_code 49 = .ok (.istore 6, 2) := by decide +kernel
theorem d_Wishes_allChoose_51 : decode prog_12_method_8_code 51 = .ok (.aload_n 0, 1) := by decide +kernel
theorem d_Wishes_allChoose_52 : decode prog_12_method_8_code 52 = .ok (.iload 5, 2) := by decide +kernel
theorem d_Wishes_allChoose_54 : decode prog_12_method_8_code 54 = .ok (.invokevirtual 109, 3) := by decide +kernel
theorem d_Wishes_allChoose_57 : decode prog_12_method_8_code 57 = .ok (.istore 7, 2) := by decide +kernel
theorem d_Wishes_allChoose_59 : decode prog_12_method_8_code 59 = .ok (.aload_n 2, 1) := by decide +kernel
theorem d_Wishes_allChoose_60 : decode prog_12_method_8_code 60 = .ok (.iconst 3, 1) := by decide +kernel
theorem d_Wishes_allChoose_61 : decode prog_12_method_8_code 61 = .ok (.iload 5, 2) := by decide +kernel
theorem d_Wishes_allChoose_63 : decode prog_12_method_8_code 63 = .ok (.iload 7, 2) := by decide +kernel
theorem d_Wishes_allChoose_65 : decode prog_12_method_8_code 65 = .ok (.invokevirtual 90, 3) := by decide +kernel
theorem d_Wishes_allChoose_68 : decode prog_12_method_8_code 68 = .ok (.iload 7, 2) := by decide +kernel
theorem d_Wishes_allChoose_70 : decode prog_12_method_8_code 70 = .ok (.iload 6, 2) := by decide +kernel
theorem d_Wishes_allChoose_72 : decode prog_12_method_8_code 72 = .ok (.if_icmp .eq 6, 3) := by decide +kernel
theorem d_Wishes_allChoose_75 : decode prog_12_method_8_code 75 = .ok (.iconst 1, 1) := by decide +kernel
theorem d_Wishes_allChoose_76 : decode prog_12_method_8_code 76 = .ok (.istore 4, 2) := by decide +kernel
theorem d_Wishes_allChoose_78 : decode prog_12_method_8_code 78 = .ok (.iinc 5 1, 3) := by decide +kernel
theorem d_Wishes_allChoose_81 : decode prog_12_method_8_code 81 = .ok (.goto (-48), 3) := by decide +kernel
theorem d_Wishes_allChoose_84 : decode prog_12_method_8_code 84 = .ok (.iload 4, 2) := by decide +kernel
theorem d_Wishes_allChoose_86 : decode prog_12_method_8_code 86 = .ok (.ifCond .ne 18, 3) := by decide +kernel
theorem d_Wishes_allChoose_89 : decode prog_12_method_8_code 89 = .ok (.iload_n 1, 1) := by decide +kernel
theorem d_Wishes_allChoose_90 : decode prog_12_method_8_code 90 = .ok (.ifCond .ge 7, 3) := by decide +kernel
theorem d_Wishes_allChoose_93 : decode prog_12_method_8_code 93 = .ok (.iload_n 3, 1) := by decide +kernel
theorem d_Wishes_allChoose_94 : decode prog_12_method_8_code 94 = .ok (.goto 9, 3) := by decide +kernel
theorem d_Wishes_allChoose_97 : decode prog_12_method_8_code 97 = .ok (.aload_n 2, 1) := by decide +kernel
theorem d_Wishes_allChoose_98 : decode prog_12_method_8_code 98 = .ok (.iconst 3, 1) := by decide +kernel
theorem d_Wishes_allChoose_99 : decode prog_12_method_8_code 99 = .ok (.iload_n 1, 1) := by decide +kernel
theorem d_Wishes_allChoose_100 : decode prog_12_method_8_code 100 = .ok (.invokevirtual 106, 3) := by decide +kernel
theorem d_Wishes_allChoose_103 : decode prog_12_method_8_code 103 = .ok (.ireturn, 1) := by decide +kernel
theorem d_Wishes_allChoose_104 : decode prog_12_method_8_code 104 = .ok (.iinc 3 1, 3) := by decide +kernel
theorem d_Wishes_allChoose_107 : decode prog_12_method_8_code 107 = .ok (.goto (-86), 3) := by decide +kernel
theorem d_Wishes_allChoose_110 : decode prog_12_method_8_code 110 = .ok (.bipush (-2), 2) := by decide +kernel
theorem d_Wishes_allChoose_112 : decode prog_12_method_8_code 112 = .ok (.ireturn, 1) := by decide +kernel
theorem d_Wishes_earliestHeels_0 : decode prog_12_method_9_code 0 = .ok (.iconst 0, 1) := by decide +kernel
theorem d_Wishes_earliestHeels_1 : decode prog_12_method_9_code 1 = .ok (.istore_n 2, 1) := by decide +kernel
theorem d_Wishes_earliestHeels_2 : decode prog_12_method_9_code 2 = .ok (.bipush 30, 2) := by decide +kernel
theorem d_Wishes_earliestHeels_4 : decode prog_12_method_9_code 4 = .ok (.istore_n 3, 1) := by decide +kernel
theorem d_Wishes_earliestHeels_5 : decode prog_12_method_9_code 5 = .ok (.iconst 0, 1) := by decide +kernel
theorem d_Wishes_earliestHeels_6 : decode prog_12_method_9_code 6 = .ok (.istore 4, 2) := by decide +kernel
theorem d_Wishes_earliestHeels_8 : decode prog_12_method_9_code 8 = .ok (.iload 4, 2) := by decide +kernel
theorem d_Wishes_earliestHeels_10 : decode prog_12_method_9_code 10 = .ok (.bipush 20, 2) := by decide +kernel
theorem d_Wishes_earliestHeels_12 : decode prog_12_method_9_code 12 = .ok (.if_icmp .gt 47, 3) := by decide +kernel
theorem d_Wishes_earliestHeels_15 : decode prog_12_method_9_code 15 = .ok (.aload_n 0, 1) := by decide +kernel
theorem d_Wishes_earliestHeels_16 : decode prog_12_method_9_code 16 = .ok (.getfield 15, 3) := by decide +kernel
theorem d_Wishes_earliestHeels_19 : decode prog_12_method_9_code 19 = .ok (.iconst 3, 1) := by decide +kernel
theorem d_Wishes_earliestHeels_20 : decode prog_12_method_9_code 20 = .ok (.iload_n 1, 1) := by decide +kernel
theorem d_Wishes_earliestHeels_21 : decode prog_12_method_9_code 21 = .ok (.iload 4, 2) := by decide +kernel
theorem d_Wishes_earliestHeels_23 : decode prog_12_method_9_code 23 = .ok (.invokevirtual 98, 3) := by decide +kernel
theorem d_Wishes_earliestHeels_26 : decode prog_12_method_9_code 26 = .ok (.aload_n 0, 1) := by decide +kernel
theorem d_Wishes_earliestHeels_27 : decode prog_12_method_9_code 27 = .ok (.getfield 15, 3) := by decide +kernel
theorem d_Wishes_earliestHeels_30 : decode prog_12_method_9_code 30 = .ok (.iload_n 1, 1) := by decide +kernel
theorem d_Wishes_earliestHeels_31 : decode prog_12_method_9_code 31 = .ok (.iload_n 3, 1) := by decide +kernel
theorem d_Wishes_earliestHeels_32 : decode prog_12_method_9_code 32 = .ok (.invokevirtual 50, 3) := by decide +kernel
theorem d_Wishes_earliestHeels_35 : decode prog_12_method_9_code 35 = .ok (.istore 5, 2) := by decide +kernel
theorem d_Wishes_earliestHeels_37 : decode prog_12_method_9_code 37 = .ok (.iload 5, 2) := by decide +kernel
theorem d_Wishes_earliestHeels_39 : decode prog_12_method_9_code 39 = .ok (.bipush (-2), 2) := by decide +kernel
theorem d_Wishes_earliestHeels_41 : decode prog_12_method_9_code 41 = .ok (.if_icmp .ne 6, 3) := by decide +kernel
theorem d_Wishes_earliestHeels_44 : decode prog_12_method_9_code 44 = .ok (.goto 9, 3) := by decide +kernel
theorem d_Wishes_earliestHeels_47 : decode prog_12_method_9_code 47 = .ok (.iload 5, 2) := by decide +kernel
theorem d_Wishes_earliestHeels_49 : decode prog_12_method_9_code 49 = .ok (.istore_n 3, 1) := by decide +kernel
theorem d_Wishes_earliestHeels_50 : decode prog_12_method_9_code 50 = .ok (.iload 4, 2) := by decide +kernel
theorem d_Wishes_earliestHeels_52 : decode prog_12_method_9_code 52 = .ok (.istore_n 2, 1) := by decide +kernel
theorem d_Wishes_earliestHeels_53 : decode prog_12_method_9_code 53 = .ok (.iinc 4 1, 3) := by decide +kernel
theorem d_Wishes_earliestHeels_56 : decode prog_12_method_9_code 56 = .ok (.goto (-48), 3) := by decide +kernel
theorem d_Wishes_earliestHeels_59 : decode prog_12_method_9_code 59 = .ok (.iload_n 2, 1) := by decide +kernel
theorem d_Wishes_earliestHeels_60 : decode prog_12_method_9_code 60 = .ok (.ireturn, 1) := by decide +kernel
theorem d_Wishes_betterGate_0 : decode prog_12_method_10_code 0 = .ok (.aload_n 0, 1) := by decide +kernel
theorem d_Wishes_betterGate_1 : decode prog_12_method_10_code 1 = .ok (.getfield 15, 3) := by decide +kernel
theorem d_Wishes_betterGate_4 : decode prog_12_method_10_code 4 = .ok (.aload_n 0, 1) := by decide +kernel
theorem d_Wishes_betterGate_5 : decode prog_12_method_10_code 5 = .ok (.getfield 9, 3) := by decide +kernel
theorem d_Wishes_betterGate_8 : decode prog_12_method_10_code 8 = .ok (.invokevirtual 23, 3) := by decide +kernel
theorem d_Wishes_betterGate_11 : decode prog_12_method_10_code 11 = .ok (.aload_n 0, 1) := by decide +kernel
theorem d_Wishes_betterGate_12 : decode prog_12_method_10_code 12 = .ok (.getfield 15, 3) := by decide +kernel
theorem d_Wishes_betterGate_15 : decode prog_12_method_10_code 15 = .ok (.iload_n 1, 1) := by decide +kernel
theorem d_Wishes_betterGate_16 : decode prog_12_method_10_code 16 = .ok (.bipush 100, 2) := by decide +kernel
theorem d_Wishes_betterGate_18 : decode prog_12_method_10_code 18 = .ok (.invokevirtual 50, 3) := by decide +kernel
theorem d_Wishes_betterGate_21 : decode prog_12_method_10_code 21 = .ok (.istore_n 2, 1) := by decide +kernel
theorem d_Wishes_betterGate_22 : decode prog_12_method_10_code 22 = .ok (.aload_n 0, 1) := by decide +kernel
theorem d_Wishes_betterGate_23 : decode prog_12_method_10_code 23 = .ok (.getfield 15, 3) := by decide +kernel
theorem d_Wishes_betterGate_26 : decode prog_12_method_10_code 26 = .ok (.aload_n 0, 1) := by decide +kernel
theorem d_Wishes_betterGate_27 : decode prog_12_method_10_code 27 = .ok (.getfield 9, 3) := by decide +kernel
theorem d_Wishes_betterGate_30 : decode prog_12_method_10_code 30 = .ok (.invokevirtual 42, 3) := by decide +kernel
theorem d_Wishes_betterGate_33 : decode prog_12_method_10_code 33 = .ok (.invokevirtual 46, 3) := by decide +kernel
theorem d_Wishes_betterGate_36 : decode prog_12_method_10_code 36 = .ok (.aload_n 0, 1) := by decide +kernel
theorem d_Wishes_betterGate_37 : decode prog_12_method_10_code 37 = .ok (.getfield 15, 3) := by decide +kernel
theorem d_Wishes_betterGate_40 : decode prog_12_method_10_code 40 = .ok (.iconst 1, 1) := by decide +kernel
theorem d_Wishes_betterGate_41 : decode prog_12_method_10_code 41 = .ok (.iload_n 1, 1) := by decide +kernel
theorem d_Wishes_betterGate_42 : decode prog_12_method_10_code 42 = .ok (.ishl, 1) := by decide +kernel
theorem d_Wishes_betterGate_43 : decode prog_12_method_10_code 43 = .ok (.bipush 100, 2) := by decide +kernel
theorem d_Wishes_betterGate_45 : decode prog_12_method_10_code 45 = .ok (.invokevirtual 112, 3) := by decide +kernel
theorem d_Wishes_betterGate_48 : decode prog_12_method_10_code 48 = .ok (.pop, 1) := by decide +kernel
theorem d_Wishes_betterGate_49 : decode prog_12_method_10_code 49 = .ok (.aload_n 0, 1) := by decide +kernel
theorem d_Wishes_betterGate_50 : decode prog_12_method_10_code 50 = .ok (.getfield 15, 3) := by decide +kernel
theorem d_Wishes_betterGate_53 : decode prog_12_method_10_code 53 = .ok (.iload_n 1, 1) := by decide +kernel
theorem d_Wishes_betterGate_54 : decode prog_12_method_10_code 54 = .ok (.invokevirtual 64, 3) := by decide +kernel
theorem d_Wishes_betterGate_57 : decode prog_12_method_10_code 57 = .ok (.istore_n 3, 1) := by decide +kernel
theorem d_Wishes_betterGate_58 : decode prog_12_method_10_code 58 = .ok (.iload_n 3, 1) := by decide +kernel
theorem d_Wishes_betterGate_59 : decode prog_12_method_10_code 59 = .ok (.bipush (-2), 2) := by decide +kernel
theorem d_Wishes_betterGate_61 : decode prog_12_method_10_code 61 = .ok (.if_icmp .ne 16, 3) := by decide +kernel
theorem d_Wishes_betterGate_64 : decode prog_12_method_10_code 64 = .ok (.iload_n 2, 1) := by decide +kernel
theorem d_Wishes_betterGate_65 : decode prog_12_method_10_code 65 = .ok (.bipush (-2), 2) := by decide +kernel
theorem d_Wishes_betterGate_67 : decode prog_12_method_10_code 67 = .ok (.if_icmp .ne 8, 3) := by decide +kernel
theorem d_Wishes_betterGate_70 : decode prog_12_method_10_code 70 = .ok (.bipush (-2), 2) := by decide +kernel
theorem d_Wishes_betterGate_72 : decode prog_12_method_10_code 72 = .ok (.goto 4, 3) := by decide +kernel
theorem d_Wishes_betterGate_75 : decode prog_12_method_10_code 75 = .ok (.iconst 0, 1) := by decide +kernel
theorem d_Wishes_betterGate_76 : decode prog_12_method_10_code 76 = .ok (.ireturn, 1) := by decide +kernel
theorem d_Wishes_betterGate_77 : decode prog_12_method_10_code 77 = .ok (.iload_n 2, 1) := by decide +kernel
theorem d_Wishes_betterGate_78 : decode prog_12_method_10_code 78 = .ok (.bipush (-2), 2) := by decide +kernel
theorem d_Wishes_betterGate_80 : decode prog_12_method_10_code 80 = .ok (.if_icmp .eq 8, 3) := by decide +kernel
theorem d_Wishes_betterGate_83 : decode prog_12_method_10_code 83 = .ok (.iload_n 3, 1) := by decide +kernel
theorem d_Wishes_betterGate_84 : decode prog_12_method_10_code 84 = .ok (.iload_n 2, 1) := by decide +kernel
theorem d_Wishes_betterGate_85 : decode prog_12_method_10_code 85 = .ok (.if_icmp .ge 7, 3) := by decide +kernel
theorem d_Wishes_betterGate_88 : decode prog_12_method_10_code 88 = .ok (.iconst 1, 1) := by decide +kernel
theorem d_Wishes_betterGate_89 : decode prog_12_method_10_code 89 = .ok (.goto 4, 3) := by decide +kernel
theorem d_Wishes_betterGate_92 : decode prog_12_method_10_code 92 = .ok (.iconst 0, 1) := by decide +kernel
theorem d_Wishes_betterGate_93 : decode prog_12_method_10_code 93 = .ok (.ireturn, 1) := by decide +kernel
theorem d_Wishes_fullestSet_0 : decode prog_12_method_11_code 0 = .ok (.aload_n 0, 1) := by decide +kernel
theorem d_Wishes_fullestSet_1 : decode prog_12_method_11_code 1 = .ok (.getfield 15, 3) := by decide +kernel
theorem d_Wishes_fullestSet_4 : decode prog_12_method_11_code 4 = .ok (.aload_n 0, 1) := by decide +kernel
theorem d_Wishes_fullestSet_5 : decode prog_12_method_11_code 5 = .ok (.getfield 9, 3) := by decide +kernel
theorem d_Wishes_fullestSet_8 : decode prog_12_method_11_code 8 = .ok (.invokevirtual 23, 3) := by decide +kernel
theorem d_Wishes_fullestSet_11 : decode prog_12_method_11_code 11 = .ok (.iconst (-1), 1) := by decide +kernel
theorem d_Wishes_fullestSet_12 : decode prog_12_method_11_code 12 = .ok (.istore_n 3, 1) := by decide +kernel
theorem d_Wishes_fullestSet_13 : decode prog_12_method_11_code 13 = .ok (.iconst 0, 1) := by decide +kernel
theorem d_Wishes_fullestSet_14 : decode prog_12_method_11_code 14 = .ok (.istore 4, 2) := by decide +kernel
theorem d_Wishes_fullestSet_16 : decode prog_12_method_11_code 16 = .ok (.iconst 0, 1) := by decide +kernel
theorem d_Wishes_fullestSet_17 : decode prog_12_method_11_code 17 = .ok (.istore 5, 2) := by decide +kernel
theorem d_Wishes_fullestSet_19 : decode prog_12_method_11_code 19 = .ok (.iload 5, 2) := by decide +kernel
theorem d_Wishes_fullestSet_21 : decode prog_12_method_11_code 21 = .ok (.aload_n 0, 1) := by decide +kernel
theorem d_Wishes_fullestSet_22 : decode prog_12_method_11_code 22 = .ok (.getfield 9, 3) := by decide +kernel
theorem d_Wishes_fullestSet_25 : decode prog_12_method_11_code 25 = .ok (.invokevirtual 42, 3) := by decide +kernel
theorem d_Wishes_fullestSet_28 : decode prog_12_method_11_code 28 = .ok (.if_icmp .gt 62, 3) := by decide +kernel
theorem d_Wishes_fullestSet_31 : decode prog_12_method_11_code 31 = .ok (.iload_n 3, 1) := by decide +kernel
theorem d_Wishes_fullestSet_32 : decode prog_12_method_11_code 32 = .ok (.aload_n 0, 1) := by decide +kernel
theorem d_Wishes_fullestSet_33 : decode prog_12_method_11_code 33 = .ok (.getfield 9, 3) := by decide +kernel
theorem d_Wishes_fullestSet_36 : decode prog_12_method_11_code 36 = .ok (.invokevirtual 75, 3) := by decide +kernel
theorem d_Wishes_fullestSet_39 : decode prog_12_method_11_code 39 = .ok (.if_icmp .ge 51, 3) := by decide +kernel
theorem d_Wishes_fullestSet_42 : decode prog_12_method_11_code 42 = .ok (.aload_n 0, 1) := by decide +kernel
theorem d_Wishes_fullestSet_43 : decode prog_12_method_11_code 43 = .ok (.getfield 15, 3) := by decide +kernel
theorem d_Wishes_fullestSet_46 : decode prog_12_method_11_code 46 = .ok (.aload_n 0, 1) := by decide +kernel
theorem d_Wishes_fullestSet_47 : decode prog_12_method_11_code 47 = .ok (.getfield 9, 3) := by decide +kernel
theorem d_Wishes_fullestSet_50 : decode prog_12_method_11_code 50 = .ok (.invokevirtual 42, 3) := by decide +kernel
theorem d_Wishes_fullestSet_53 : decode prog_12_method_11_code 53 = .ok (.invokevirtual 46, 3) := by decide +kernel
theorem d_Wishes_fullestSet_56 : decode prog_12_method_11_code 56 = .ok (.aload_n 0, 1) := by decide +kernel
theorem d_Wishes_fullestSet_57 : decode prog_12_method_11_code 57 = .ok (.getfield 15, 3) := by decide +kernel
theorem d_Wishes_fullestSet_60 : decode prog_12_method_11_code 60 = .ok (.iload 5, 2) := by decide +kernel
theorem d_Wishes_fullestSet_62 : decode prog_12_method_11_code 62 = .ok (.iload_n 1, 1) := by decide +kernel
theorem d_Wishes_fullestSet_63 : decode prog_12_method_11_code 63 = .ok (.invokevirtual 112, 3) := by decide +kernel
theorem d_Wishes_fullestSet_66 : decode prog_12_method_11_code 66 = .ok (.istore 6, 2) := by decide +kernel
theorem d_Wishes_fullestSet_68 : decode prog_12_method_11_code 68 = .ok (.iload 6, 2) := by decide +kernel
theorem d_Wishes_fullestSet_70 : decode prog_12_method_11_code 70 = .ok (.iload_n 3, 1) := by decide +kernel
theorem d_Wishes_fullestSet_71 : decode prog_12_method_11_code 71 = .ok (.if_icmp .gt 6, 3) := by decide +kernel
theorem d_Wishes_fullestSet_74 : decode prog_12_method_11_code 74 = .ok (.goto 10, 3) := by decide +kernel
theorem d_Wishes_fullestSet_77 : decode prog_12_method_11_code 77 = .ok (.iload 6, 2) := by decide +kernel
theorem d_Wishes_fullestSet_79 : decode prog_12_method_11_code 79 = .ok (.istore_n 3, 1) := by decide +kernel
theorem d_Wishes_fullestSet_80 : decode prog_12_method_11_code 80 = .ok (.iload 5, 2) := by decide +kernel
theorem d_Wishes_fullestSet_82 : decode prog_12_method_11_code 82 = .ok (.istore 4, 2) := by decide +kernel
theorem d_Wishes_fullestSet_84 : decode prog_12_method_11_code 84 = .ok (.iinc 5 1, 3) := by decide +kernel
theorem d_Wishes_fullestSet_87 : decode prog_12_method_11_code 87 = .ok (.goto (-68), 3) := by decide +kernel
theorem d_Wishes_fullestSet_90 : decode prog_12_method_11_code 90 = .ok (.iload_n 2, 1) := by decide +kernel
theorem d_Wishes_fullestSet_91 : decode prog_12_method_11_code 91 = .ok (.ifCond .ne 8, 3) := by decide +kernel
theorem d_Wishes_fullestSet_94 : decode prog_12_method_11_code 94 = .ok (.iload 4, 2) := by decide +kernel
theorem d_Wishes_fullestSet_96 : decode prog_12_method_11_code 96 = .ok (.goto 4, 3) := by decide +kernel
theorem d_Wishes_fullestSet_99 : decode prog_12_method_11_code 99 = .ok (.iload_n 3, 1) := by decide +kernel
theorem d_Wishes_fullestSet_100 : decode prog_12_method_11_code 100 = .ok (.ireturn, 1) := by decide +kernel
theorem d_Wishes_placeForAll_0 : decode prog_12_method_12_code 0 = .ok (.aload_n 0, 1) := by decide +kernel
theorem d_Wishes_placeForAll_1 : decode prog_12_method_12_code 1 = .ok (.getfield 15, 3) := by decide +kernel
theorem d_Wishes_placeForAll_4 : decode prog_12_method_12_code 4 = .ok (.aload_n 0, 1) := by decide +kernel
theorem d_Wishes_placeForAll_5 : decode prog_12_method_12_code 5 = .ok (.getfield 9, 3) := by decide +kernel
theorem d_Wishes_placeForAll_8 : decode prog_12_method_12_code 8 = .ok (.invokevirtual 23, 3) := by decide +kernel
theorem d_Wishes_placeForAll_11 : decode prog_12_method_12_code 11 = .ok (.iconst 0, 1) := by decide +kernel
theorem d_Wishes_placeForAll_12 : decode prog_12_method_12_code 12 = .ok (.istore_n 2, 1) := by decide +kernel
theorem d_Wishes_placeForAll_13 : decode prog_12_method_12_code 13 = .ok (.iload_n 2, 1) := by decide +kernel
theorem d_Wishes_placeForAll_14 : decode prog_12_method_12_code 14 = .ok (.iconst 4, 1) := by decide +kernel
theorem d_Wishes_placeForAll_15 : decode prog_12_method_12_code 15 = .ok (.if_icmp .gt 45, 3) := by decide +kernel
theorem d_Wishes_placeForAll_18 : decode prog_12_method_12_code 18 = .ok (.aload_n 0, 1) := by decide +kernel
theorem d_Wishes_placeForAll_19 : decode prog_12_method_12_code 19 = .ok (.getfield 15, 3) := by decide +kernel
theorem d_Wishes_placeForAll_22 : decode prog_12_method_12_code 22 = .ok (.aload_n 0, 1) := by decide +kernel
theorem d_Wishes_placeForAll_23 : decode prog_12_method_12_code 23 = .ok (.getfield 9, 3) := by decide +kernel
theorem d_Wishes_placeForAll_26 : decode prog_12_method_12_code 26 = .ok (.invokevirtual 42, 3) := by decide +kernel
theorem d_Wishes_placeForAll_29 : decode prog_12_method_12_code 29 = .ok (.invokevirtual 46, 3) := by decide +kernel
theorem d_Wishes_placeForAll_32 : decode prog_12_method_12_code 32 = .ok (.aload_n 0, 1) := by decide +kernel
theorem d_Wishes_placeForAll_33 : decode prog_12_method_12_code 33 = .ok (.getfield 15, 3) := by decide +kernel
theorem d_Wishes_placeForAll_36 : decode prog_12_method_12_code 36 = .ok (.iload_n 1, 1) := by decide +kernel
theorem d_Wishes_placeForAll_37 : decode prog_12_method_12_code 37 = .ok (.iload_n 2, 1) := by decide +kernel
theorem d_Wishes_placeForAll_38 : decode prog_12_method_12_code 38 = .ok (.invokevirtual 61, 3) := by decide +kernel
theorem d_Wishes_placeForAll_41 : decode prog_12_method_12_code 41 = .ok (.pop, 1) := by decide +kernel
theorem d_Wishes_placeForAll_42 : decode prog_12_method_12_code 42 = .ok (.aload_n 0, 1) := by decide +kernel
theorem d_Wishes_placeForAll_43 : decode prog_12_method_12_code 43 = .ok (.getfield 15, 3) := by decide +kernel
theorem d_Wishes_placeForAll_46 : decode prog_12_method_12_code 46 = .ok (.invokevirtual 115, 3) := by decide +kernel
theorem d_Wishes_placeForAll_49 : decode prog_12_method_12_code 49 = .ok (.ifCond .eq 5, 3) := by decide +kernel
theorem d_Wishes_placeForAll_52 : decode prog_12_method_12_code 52 = .ok (.iload_n 2, 1) := by decide +kernel
theorem d_Wishes_placeForAll_53 : decode prog_12_method_12_code 53 = .ok (.ireturn, 1) := by decide +kernel
theorem d_Wishes_placeForAll_54 : decode prog_12_method_12_code 54 = .ok (.iinc 2 1, 3) := by decide +kernel
theorem d_Wishes_placeForAll_57 : decode prog_12_method_12_code 57 = .ok (.goto (-44), 3) := by decide +kernel
theorem d_Wishes_placeForAll_60 : decode prog_12_method_12_code 60 = .ok (.bipush (-2), 2) := by decide +kernel
theorem d_Wishes_placeForAll_62 : decode prog_12_method_12_code 62 = .ok (.ireturn, 1) := by decide +kernel
theorem d_Mo_init_0 : decode prog_1_method_1_code 0 = .ok (.aload_n 0, 1) := by decide +kernel
theorem d_Mo_init_1 : decode prog_1_method_1_code 1 = .ok (.invokespecial 1, 3) := by decide +kernel
theorem d_Mo_init_4 : decode prog_1_method_1_code 4 = .ok (.aload_n 0, 1) := by decide +kernel
theorem d_Mo_init_5 : decode prog_1_method_1_code 5 = .ok (.new 7, 3) := by decide +kernel
theorem d_Mo_init_8 : decode prog_1_method_1_code 8 = .ok (.dup, 1) := by decide +kernel
theorem d_Mo_init_9 : decode prog_1_method_1_code 9 = .ok (.invokespecial 9, 3) := by decide +kernel
theorem d_Mo_init_12 : decode prog_1_method_1_code 12 = .ok (.putfield 10, 3) := by decide +kernel
theorem d_Mo_init_15 : decode prog_1_method_1_code 15 = .ok (.aload_n 0, 1) := by decide +kernel
theorem d_Mo_init_16 : decode prog_1_method_1_code 16 = .ok (.new 16, 3) := by decide +kernel
theorem d_Mo_init_19 : decode prog_1_method_1_code 19 = .ok (.dup, 1) := by decide +kernel
theorem d_Mo_init_20 : decode prog_1_method_1_code 20 = .ok (.invokespecial 18, 3) := by decide +kernel
theorem d_Mo_init_23 : decode prog_1_method_1_code 23 = .ok (.putfield 19, 3) := by decide +kernel
theorem d_Mo_init_26 : decode prog_1_method_1_code 26 = .ok (.aload_n 0, 1) := by decide +kernel
theorem d_Mo_init_27 : decode prog_1_method_1_code 27 = .ok (.new 23, 3) := by decide +kernel
theorem d_Mo_init_30 : decode prog_1_method_1_code 30 = .ok (.dup, 1) := by decide +kernel
theorem d_Mo_init_31 : decode prog_1_method_1_code 31 = .ok (.invokespecial 25, 3) := by decide +kernel
theorem d_Mo_init_34 : decode prog_1_method_1_code 34 = .ok (.putfield 26, 3) := by decide +kernel
theorem d_Mo_init_37 : decode prog_1_method_1_code 37 = .ok (.new 30, 3) := by decide +kernel
theorem d_Mo_init_40 : decode prog_1_method_1_code 40 = .ok (.dup, 1) := by decide +kernel
theorem d_Mo_init_41 : decode prog_1_method_1_code 41 = .ok (.aload_n 0, 1) := by decide +kernel
theorem d_Mo_init_42 : decode prog_1_method_1_code 42 = .ok (.getfield 19, 3) := by decide +kernel
theorem d_Mo_init_45 : decode prog_1_method_1_code 45 = .ok (.invokespecial 32, 3) := by decide +kernel
theorem d_Mo_init_48 : decode prog_1_method_1_code 48 = .ok (.astore_n 1, 1) := by decide +kernel
theorem d_Mo_init_49 : decode prog_1_method_1_code 49 = .ok (.aload_n 0, 1) := by decide +kernel
theorem d_Mo_init_50 : decode prog_1_method_1_code 50 = .ok (.new 35, 3) := by decide +kernel
theorem d_Mo_init_53 : decode prog_1_method_1_code 53 = .ok (.dup, 1) := by decide +kernel
theorem d_Mo_init_54 : decode prog_1_method_1_code 54 = .ok (.aload_n 1, 1) := by decide +kernel
theorem d_Mo_init_55 : decode prog_1_method_1_code 55 = .ok (.invokespecial 37, 3) := by decide +kernel
theorem d_Mo_init_58 : decode prog_1_method_1_code 58 = .ok (.putfield 40, 3) := by decide +kernel
theorem d_Mo_init_61 : decode prog_1_method_1_code 61 = .ok (.aload_n 0, 1) := by decide +kernel
theorem d_Mo_init_62 : decode prog_1_method_1_code 62 = .ok (.new 44, 3) := by decide +kernel
theorem d_Mo_init_65 : decode prog_1_method_1_code 65 = .ok (.dup, 1) := by decide +kernel
theorem d_Mo_init_66 : decode prog_1_method_1_code 66 = .ok (.aload_n 0, 1) := by decide +kernel
theorem d_Mo_init_67 : decode prog_1_method_1_code 67 = .ok (.getfield 10, 3) := by decide +kernel
theorem d_Mo_init_70 : decode prog_1_method_1_code 70 = .ok (.aload_n 0, 1) := by decide +kernel
theorem d_Mo_init_71 : decode prog_1_method_1_code 71 = .ok (.getfield 40, 3) := by decide +kernel
theorem d_Mo_init_74 : decode prog_1_method_1_code 74 = .ok (.aload_n 1, 1) := by decide +kernel
theorem d_Mo_init_75 : decode prog_1_method_1_code 75 = .ok (.invokespecial 46, 3) := by decide +kernel
theorem d_Mo_init_78 : decode prog_1_method_1_code 78 = .ok (.putfield 49, 3) := by decide +kernel
theorem d_Mo_init_81 : decode prog_1_method_1_code 81 = .ok (.aload_n 0, 1) := by decide +kernel
theorem d_Mo_init_82 : decode prog_1_method_1_code 82 = .ok (.new 53, 3) := by decide +kernel
theorem d_Mo_init_85 : decode prog_1_method_1_code 85 = .ok (.dup, 1) := by decide +kernel
theorem d_Mo_init_86 : decode prog_1_method_1_code 86 = .ok (.invokespecial 55, 3) := by decide +kernel
theorem d_Mo_init_89 : decode prog_1_method_1_code 89 = .ok (.putfield 56, 3) := by decide +kernel
theorem d_Mo_init_92 : decode prog_1_method_1_code 92 = .ok (.aload_n 0, 1) := by decide +kernel
theorem d_Mo_init_93 : decode prog_1_method_1_code 93 = .ok (.new 60, 3) := by decide +kernel
theorem d_Mo_init_96 : decode prog_1_method_1_code 96 = .ok (.dup, 1) := by decide +kernel
theorem d_Mo_init_97 : decode prog_1_method_1_code 97 = .ok (.aload_n 0, 1) := by decide +kernel
theorem d_Mo_init_98 : decode prog_1_method_1_code 98 = .ok (.getfield 10, 3) := by decide +kernel
theorem d_Mo_init_101 : decode prog_1_method_1_code 101 = .ok (.aload_n 0, 1) := by decide +kernel
theorem d_Mo_init_102 : decode prog_1_method_1_code 102 = .ok (.getfield 40, 3) := by decide +kernel
theorem d_Mo_init_105 : decode prog_1_method_1_code 105 = .ok (.aload_n 0, 1) := by decide +kernel
theorem d_Mo_init_106 : decode prog_1_method_1_code 106 = .ok (.getfield 56, 3) := by decide +kernel
theorem d_Mo_init_109 : decode prog_1_method_1_code 109 = .ok (.invokespecial 62, 3) := by decide +kernel
theorem d_Mo_init_112 : decode prog_1_method_1_code 112 = .ok (.putfield 65, 3) := by decide +kernel
theorem d_Mo_init_115 : decode prog_1_method_1_code 115 = .ok (.aload_n 0, 1) := by decide +kernel
theorem d_Mo_init_116 : decode prog_1_method_1_code 116 = .ok (.new 69, 3) := by decide +kernel
theorem d_Mo_init_119 : decode prog_1_method_1_code 119 = .ok (.dup, 1) := by decide +kernel
theorem d_Mo_init_120 : decode prog_1_method_1_code 120 = .ok (.aload_n 0, 1) := by decide +kernel
theorem d_Mo_init_121 : decode prog_1_method_1_code 121 = .ok (.getfield 10, 3) := by decide +kernel
theorem d_Mo_init_124 : decode prog_1_method_1_code 124 = .ok (.aload_n 1, 1) := by decide +kernel
theorem d_Mo_init_125 : decode prog_1_method_1_code 125 = .ok (.invokespecial 71, 3) := by decide +kernel
theorem d_Mo_init_128 : decode prog_1_method_1_code 128 = .ok (.putfield 74, 3) := by decide +kernel
theorem d_Mo_init_131 : decode prog_1_method_1_code 131 = .ok (.aload_n 0, 1) := by decide +kernel
theorem d_Mo_init_132 : decode prog_1_method_1_code 132 = .ok (.new 78, 3) := by decide +kernel
theorem d_Mo_init_135 : decode prog_1_method_1_code 135 = .ok (.dup, 1) := by decide +kernel
theorem d_Mo_init_136 : decode prog_1_method_1_code 136 = .ok (.aload_n 0, 1) := by decide +kernel
theorem d_Mo_init_137 : decode prog_1_method_1_code 137 = .ok (.getfield 10, 3) := by decide +kernel
theorem d_Mo_init_140 : decode prog_1_method_1_code 140 = .ok (.invokespecial 80, 3) := by decide +kernel
theorem d_Mo_init_143 : decode prog_1_method_1_code 143 = .ok (.putfield 83, 3) := by decide +kernel
theorem d_Mo_init_146 : decode prog_1_method_1_code 146 = .ok (.aload_n 0, 1) := by decide +kernel
theorem d_Mo_init_147 : decode prog_1_method_1_code 147 = .ok (.new 87, 3) := by decide +kernel
theorem d_Mo_init_150 : decode prog_1_method_1_code 150 = .ok (.dup, 1) := by decide +kernel
theorem d_Mo_init_151 : decode prog_1_method_1_code 151 = .ok (.invokespecial 89, 3) := by decide +kernel
theorem d_Mo_init_154 : decode prog_1_method_1_code 154 = .ok (.putfield 90, 3) := by decide +kernel
theorem d_Mo_init_157 : decode prog_1_method_1_code 157 = .ok (.return_, 1) := by decide +kernel
theorem d_Mo_person_0 : decode prog_1_method_2_code 0 = .ok (.iconst 0, 1) := by decide +kernel
theorem d_Mo_person_1 : decode prog_1_method_2_code 1 = .ok (.iload_n 1, 1) := by decide +kernel
theorem d_Mo_person_2 : decode prog_1_method_2_code 2 = .ok (.invokestatic 94, 3) := by decide +kernel
theorem d_Mo_person_5 : decode prog_1_method_2_code 5 = .ok (.ifCond .eq 11, 3) := by decide +kernel
theorem d_Mo_person_8 : decode prog_1_method_2_code 8 = .ok (.iconst 1, 1) := by decide +kernel
theorem d_Mo_person_9 : decode prog_1_method_2_code 9 = .ok (.iload_n 2, 1) := by decide +kernel
theorem d_Mo_person_10 : decode prog_1_method_2_code 10 = .ok (.invokestatic 94, 3) := by decide +kernel
theorem d_Mo_person_13 : decode prog_1_method_2_code 13 = .ok (.ifCond .ne 5, 3) := by decide +kernel
theorem d_Mo_person_16 : decode prog_1_method_2_code 16 = .ok (.iconst (-1), 1) := by decide +kernel
theorem d_Mo_person_17 : decode prog_1_method_2_code 17 = .ok (.ireturn, 1) := by decide +kernel
theorem d_Mo_person_18 : decode prog_1_method_2_code 18 = .ok (.aload_n 0, 1) := by decide +kernel
theorem d_Mo_person_19 : decode prog_1_method_2_code 19 = .ok (.getfield 10, 3) := by decide +kernel
theorem d_Mo_person_22 : decode prog_1_method_2_code 22 = .ok (.invokevirtual 98, 3) := by decide +kernel
theorem d_Mo_person_25 : decode prog_1_method_2_code 25 = .ok (.bipush 12, 2) := by decide +kernel
theorem d_Mo_person_27 : decode prog_1_method_2_code 27 = .ok (.if_icmp .lt 6, 3) := by decide +kernel
theorem d_Mo_person_30 : decode prog_1_method_2_code 30 = .ok (.bipush (-3), 2) := by decide +kernel
theorem d_Mo_person_32 : decode prog_1_method_2_code 32 = .ok (.ireturn, 1) := by decide +kernel
theorem d_Mo_person_33 : decode prog_1_method_2_code 33 = .ok (.aload_n 0, 1) := by decide +kernel
theorem d_Mo_person_34 : decode prog_1_method_2_code 34 = .ok (.getfield 10, 3) := by decide +kernel
theorem d_Mo_person_37 : decode prog_1_method_2_code 37 = .ok (.iload_n 1, 1) := by decide +kernel
theorem d_Mo_person_38 : decode prog_1_method_2_code 38 = .ok (.iload_n 2, 1) := by decide +kernel
theorem d_Mo_person_39 : decode prog_1_method_2_code 39 = .ok (.bipush 99, 2) := by decide +kernel
theorem d_Mo_person_41 : decode prog_1_method_2_code 41 = .ok (.invokevirtual 102, 3) := by decide +kernel
theorem d_Mo_person_44 : decode prog_1_method_2_code 44 = .ok (.ireturn, 1) := by decide +kernel
theorem d_Mo_people_0 : decode prog_1_method_3_code 0 = .ok (.iload_n 1, 1) := by decide +kernel
theorem d_Mo_people_1 : decode prog_1_method_3_code 1 = .ok (.invokestatic 106, 3) := by decide +kernel
theorem d_Mo_people_4 : decode prog_1_method_3_code 4 = .ok (.ifCond .eq 14, 3) := by decide +kernel
theorem d_Mo_people_7 : decode prog_1_method_3_code 7 = .ok (.iload_n 3, 1) := by decide +kernel
theorem d_Mo_people_8 : decode prog_1_method_3_code 8 = .ok (.iconst 1, 1) := by decide +kernel
theorem d_Mo_people_9 : decode prog_1_method_3_code 9 = .ok (.if_icmp .lt 9, 3) := by decide +kernel
theorem d_Mo_people_12 : decode prog_1_method_3_code 12 = .ok (.iload_n 3, 1) := by decide +kernel
theorem d_Mo_people_13 : decode prog_1_method_3_code 13 = .ok (.bipush 12, 2) := by decide +kernel
theorem d_Mo_people_15 : decode prog_1_method_3_code 15 = .ok (.if_icmp .le 5, 3) := by decide +kernel
theorem d_Mo_people_18 : decode prog_1_method_3_code 18 = .ok (.iconst (-1), 1) := by decide +kernel
theorem d_Mo_people_19 : decode prog_1_method_3_code 19 = .ok (.ireturn, 1) := by decide +kernel
theorem d_Mo_people_20 : decode prog_1_method_3_code 20 = .ok (.aload_n 0, 1) := by decide +kernel
theorem d_Mo_people_21 : decode prog_1_method_3_code 21 = .ok (.getfield 56, 3) := by decide +kernel
theorem d_Mo_people_24 : decode prog_1_method_3_code 24 = .ok (.iload_n 1, 1) := by decide +kernel
theorem d_Mo_people_25 : decode prog_1_method_3_code 25 = .ok (.invokevirtual 110, 3) := by decide +kernel
theorem d_Mo_people_28 : decode prog_1_method_3_code 28 = .ok (.ifCond .eq 5, 3) := by decide +kernel
theorem d_Mo_people_31 : decode prog_1_method_3_code 31 = .ok (.iconst 0, 1) := by decide +kernel
theorem d_Mo_people_32 : decode prog_1_method_3_code 32 = .ok (.ireturn, 1) := by decide +kernel
theorem d_Mo_people_33 : decode prog_1_method_3_code 33 = .ok (.aload_n 0, 1) := by decide +kernel
theorem d_Mo_people_34 : decode prog_1_method_3_code 34 = .ok (.getfield 56, 3) := by decide +kernel
theorem d_Mo_people_37 : decode prog_1_method_3_code 37 = .ok (.iload_n 1, 1) := by decide +kernel
theorem d_Mo_people_38 : decode prog_1_method_3_code 38 = .ok (.iconst 1, 1) := by decide +kernel
theorem d_Mo_people_39 : decode prog_1_method_3_code 39 = .ok (.invokevirtual 113, 3) := by decide +kernel
theorem d_Mo_people_42 : decode prog_1_method_3_code 42 = .ok (.ifCond .ne 6, 3) := by decide +kernel
theorem d_Mo_people_45 : decode prog_1_method_3_code 45 = .ok (.bipush (-12), 2) := by decide +kernel
theorem d_Mo_people_47 : decode prog_1_method_3_code 47 = .ok (.ireturn, 1) := by decide +kernel
theorem d_Mo_people_48 : decode prog_1_method_3_code 48 = .ok (.aload_n 0, 1) := by decide +kernel
theorem d_Mo_people_49 : decode prog_1_method_3_code 49 = .ok (.iload_n 1, 1) := by decide +kernel
theorem d_Mo_people_50 : decode prog_1_method_3_code 50 = .ok (.iload_n 2, 1) := by decide +kernel
theorem d_Mo_people_51 : decode prog_1_method_3_code 51 = .ok (.iload_n 3, 1) := by decide +kernel
theorem d_Mo_people_52 : decode prog_1_method_3_code 52 = .ok (.invokevirtual 116, 3) := by decide +kernel
theorem d_Mo_people_55 : decode prog_1_method_3_code 55 = .ok (.ireturn, 1) := by decide +kernel
theorem d_Mo_joinFromRow_0 : decode prog_1_method_4_code 0 = .ok (.iconst 0, 1) := by decide +kernel
theorem d_Mo_joinFromRow_1 : decode prog_1_method_4_code 1 = .ok (.istore 4, 2) := by decide +kernel
theorem d_Mo_joinFromRow_3 : decode prog_1_method_4_code 3 = .ok (.iload 4, 2) := by decide +kernel
theorem d_Mo_joinFromRow_5 : decode prog_1_method_4_code 5 = .ok (.iload_n 3, 1) := by decide +kernel
theorem d_Mo_joinFromRow_6 : decode prog_1_method_4_code 6 = .ok (.if_icmp .ge 172, 3) := by decide +kernel
theorem d_Mo_joinFromRow_9 : decode prog_1_method_4_code 9 = .ok (.iload_n 2, 1) := by decide +kernel
theorem d_Mo_joinFromRow_10 : decode prog_1_method_4_code 10 = .ok (.ifCond .lt 9, 3) := by decide +kernel
theorem d_Mo_joinFromRow_13 : decode prog_1_method_4_code 13 = .ok (.iload_n 2, 1) := by decide +kernel
theorem d_Mo_joinFromRow_14 : decode prog_1_method_4_code 14 = .ok (.bipush 60, 2) := by decide +kernel
theorem d_Mo_joinFromRow_16 : decode prog_1_method_4_code 16 = .ok (.if_icmp .le 6, 3) := by decide +kernel
theorem d_Mo_joinFromRow_19 : decode prog_1_method_4_code 19 = .ok (.iload 4, 2) := by decide +kernel
theorem d_Mo_joinFromRow_21 : decode prog_1_method_4_code 21 = .ok (.ireturn, 1) := by decide +kernel
theorem d_Mo_joinFromRow_22 : decode prog_1_method_4_code 22 = .ok (.iload_n 2, 1) := by decide +kernel
theorem d_Mo_joinFromRow_23 : decode prog_1_method_4_code 23 = .ok (.iconst 3, 1) := by decide +kernel
theorem d_Mo_joinFromRow_24 : decode prog_1_method_4_code 24 = .ok (.iload 4, 2) := by decide +kernel
theorem d_Mo_joinFromRow_26 : decode prog_1_method_4_code 26 = .ok (.imul, 1) := by decide +kernel
theorem d_Mo_joinFromRow_27 : decode prog_1_method_4_code 27 = .ok (.iadd, 1) := by decide +kernel
theorem d_Mo_joinFromRow_28 : decode prog_1_method_4_code 28 = .ok (.istore 5, 2) := by decide +kernel
theorem d_Mo_joinFromRow_30 : decode prog_1_method_4_code 30 = .ok (.aload_n 0, 1) := by decide +kernel
theorem d_Mo_joinFromRow_31 : decode prog_1_method_4_code 31 = .ok (.getfield 56, 3) := by decide +kernel
theorem d_Mo_joinFromRow_34 : decode prog_1_method_4_code 34 = .ok (.iload_n 1, 1) := by decide +kernel
theorem d_Mo_joinFromRow_35 : decode prog_1_method_4_code 35 = .ok (.iload 5, 2) := by decide +kernel
theorem d_Mo_joinFromRow_37 : decode prog_1_method_4_code 37 = .ok (.invokevirtual 119, 3) := by decide +kernel
theorem d_Mo_joinFromRow_40 : decode prog_1_method_4_code 40 = .ok (.ifCond .eq 18, 3) := by decide +kernel
theorem d_Mo_joinFromRow_43 : decode prog_1_method_4_code 43 = .ok (.aload_n 0, 1) := by decide +kernel
theorem d_Mo_joinFromRow_44 : decode prog_1_method_4_code 44 = .ok (.getfield 56, 3) := by decide +kernel
theorem d_Mo_joinFromRow_47 : decode prog_1_method_4_code 47 = .ok (.iload_n 1, 1) := by decide +kernel
theorem d_Mo_joinFromRow_48 : decode prog_1_method_4_code 48 = .ok (.iload 5, 2) := by decide +kernel
theorem d_Mo_joinFromRow_50 : decode prog_1_method_4_code 50 = .ok (.iconst 2, 1) := by decide +kernel
theorem d_Mo_joinFromRow_51 : decode prog_1_method_4_code 51 = .ok (.iadd, 1) := by decide +kernel
theorem d_Mo_joinFromRow_52 : decode prog_1_method_4_code 52 = .ok (.invokevirtual 119, 3) := by decide +kernel
theorem d_Mo_joinFromRow_55 : decode prog_1_method_4_code 55 = .ok (.ifCond .ne 6, 3) := by decide +kernel
theorem d_Mo_joinFromRow_58 : decode prog_1_method_4_code 58 = .ok (.iload 4, 2) := by decide +kernel
theorem d_Mo_joinFromRow_60 : decode prog_1_method_4_code 60 = .ok (.ireturn, 1) := by decide +kernel
theorem d_Mo_joinFromRow_61 : decode prog_1_method_4_code 61 = .ok (.aload_n 0, 1) := by decide +kernel
theorem d_Mo_joinFromRow_62 : decode prog_1_method_4_code 62 = .ok (.getfield 56, 3) := by decide +kernel
theorem d_Mo_joinFromRow_65 : decode prog_1_method_4_code 65 = .ok (.iload_n 1, 1) := by decide +kernel
theorem d_Mo_joinFromRow_66 : decode prog_1_method_4_code 66 = .ok (.iload 5, 2) := by decide +kernel
theorem d_Mo_joinFromRow_68 : decode prog_1_method_4_code 68 = .ok (.invokevirtual 122, 3) := by decide +kernel
theorem d_Mo_joinFromRow_71 : decode prog_1_method_4_code 71 = .ok (.l2i, 1) := by decide +kernel
theorem d_Mo_joinFromRow_72 : decode prog_1_method_4_code 72 = .ok (.istore 6, 2) := by decide +kernel
theorem d_Mo_joinFromRow_74 : decode prog_1_method_4_code 74 = .ok (.aload_n 0, 1) := by decide +kernel
theorem d_Mo_joinFromRow_75 : decode prog_1_method_4_code 75 = .ok (.getfield 56, 3) := by decide +kernel
theorem d_Mo_joinFromRow_78 : decode prog_1_method_4_code 78 = .ok (.iload_n 1, 1) := by decide +kernel
theorem d_Mo_joinFromRow_79 : decode prog_1_method_4_code 79 = .ok (.iload 5, 2) := by decide +kernel
theorem d_Mo_joinFromRow_81 : decode prog_1_method_4_code 81 = .ok (.iconst 1, 1) := by decide +kernel
theorem d_Mo_joinFromRow_82 : decode prog_1_method_4_code 82 = .ok (.iadd, 1) := by decide +kernel
theorem d_Mo_joinFromRow_83 : decode prog_1_method_4_code 83 = .ok (.invokevirtual 122, 3) := by decide +kernel
theorem d_Mo_joinFromRow_86 : decode prog_1_method_4_code 86 = .ok (.l2i, 1) := by decide +kernel
theorem d_Mo_joinFromRow_87 : decode prog_1_method_4_code 87 = .ok (.istore 7, 2) := by decide +kernel
theorem d_Mo_joinFromRow_89 : decode prog_1_method_4_code 89 = .ok (.aload_n 0, 1) := by decide +kernel
theorem d_Mo_joinFromRow_90 : decode prog_1_method_4_code 90 = .ok (.getfield 56, 3) := by decide +kernel
theorem d_Mo_joinFromRow_93 : decode prog_1_method_4_code 93 = .ok (.iload_n 1, 1) := by decide +kernel
theorem d_Mo_joinFromRow_94 : decode prog_1_method_4_code 94 = .ok (.iload 5, 2) := by decide +kernel
theorem d_Mo_joinFromRow_96 : decode prog_1_method_4_code 96 = .ok (.iconst 2, 1) := by decide +kernel
theorem d_Mo_joinFromRow_97 : decode prog_1_method_4_code 97 = .ok (.iadd, 1) := by decide +kernel
theorem d_Mo_joinFromRow_98 : decode prog_1_method_4_code 98 = .ok (.invokevirtual 122, 3) := by decide +kernel
theorem d_Mo_joinFromRow_101 : decode prog_1_method_4_code 101 = .ok (.l2i, 1) := by decide +kernel
theorem d_Mo_joinFromRow_102 : decode prog_1_method_4_code 102 = .ok (.istore 8, 2) := by decide +kernel
theorem d_Mo_joinFromRow_104 : decode prog_1_method_4_code 104 = .ok (.iconst 0, 1) := by decide +kernel
theorem d_Mo_joinFromRow_105 : decode prog_1_method_4_code 105 = .ok (.iload 6, 2) := by decide +kernel
theorem d_Mo_joinFromRow_107 : decode prog_1_method_4_code 107 = .ok (.invokestatic 94, 3) := by decide +kernel
theorem d_Mo_joinFromRow_110 : decode prog_1_method_4_code 110 = .ok (.ifCond .eq 25, 3) := by decide +kernel
theorem d_Mo_joinFromRow_113 : decode prog_1_method_4_code 113 = .ok (.iconst 1, 1) := by decide +kernel
theorem d_Mo_joinFromRow_114 : decode prog_1_method_4_code 114 = .ok (.iload 7, 2) := by decide +kernel
theorem d_Mo_joinFromRow_116 : decode prog_1_method_4_code 116 = .ok (.invokestatic 94, 3) := by decide +kernel
theorem d_Mo_joinFromRow_119 : decode prog_1_method_4_code 119 = .ok (.ifCond .eq 16, 3) := by decide +kernel
theorem d_Mo_joinFromRow_122 : decode prog_1_method_4_code 122 = .ok (.iconst 2, 1) := by decide +kernel
theorem d_Mo_joinFromRow_123 : decode prog_1_method_4_code 123 = .ok (.iload 8, 2) := by decide +kernel
theorem d_Mo_joinFromRow_125 : decode prog_1_method_4_code 125 = .ok (.invokestatic 94, 3) := by decide +kernel
theorem d_Mo_joinFromRow_128 : decode prog_1_method_4_code 128 = .ok (.ifCond .eq 7, 3) := by decide +kernel
theorem d_Mo_joinFromRow_131 : decode prog_1_method_4_code 131 = .ok (.iconst 1, 1) := by decide +kernel
theorem d_Mo_joinFromRow_132 : decode prog_1_method_4_code 132 = .ok (.goto 4, 3) := by decide +kernel
theorem d_Mo_joinFromRow_135 : decode prog_1_method_4_code 135 = .ok (.iconst 0, 1) := by decide +kernel
theorem d_Mo_joinFromRow_136 : decode prog_1_method_4_code 136 = .ok (.istore 9, 2) := by decide +kernel
theorem d_Mo_joinFromRow_138 : decode prog_1_method_4_code 138 = .ok (.iload 9, 2) := by decide +kernel
theorem d_Mo_joinFromRow_140 : decode prog_1_method_4_code 140 = .ok (.ifCond .eq 15, 3) := by decide +kernel
theorem d_Mo_joinFromRow_143 : decode prog_1_method_4_code 143 = .ok (.aload_n 0, 1) := by decide +kernel
theorem d_Mo_joinFromRow_144 : decode prog_1_method_4_code 144 = .ok (.getfield 10, 3) := by decide +kernel
theorem d_Mo_joinFromRow_147 : decode prog_1_method_4_code 147 = .ok (.invokevirtual 98, 3) := by decide +kernel
theorem d_Mo_joinFromRow_150 : decode prog_1_method_4_code 150 = .ok (.bipush 12, 2) := by decide +kernel
theorem d_Mo_joinFromRow_152 : decode prog_1_method_4_code 152 = .ok (.if_icmp .lt 6, 3) := by decide +kernel
theorem d_Mo_joinFromRow_155 : decode prog_1_method_4_code 155 = .ok (.iload 4, 2) := by decide +kernel
theorem d_Mo_joinFromRow_157 : decode prog_1_method_4_code 157 = .ok (.ireturn, 1) := by decide +kernel
theorem d_Mo_joinFromRow_158 : decode prog_1_method_4_code 158 = .ok (.aload_n 0, 1) := by decide +kernel
theorem d_Mo_joinFromRow_159 : decode prog_1_method_4_code 159 = .ok (.getfield 10, 3) := by decide +kernel
theorem d_Mo_joinFromRow_162 : decode prog_1_method_4_code 162 = .ok (.iload 6, 2) := by decide +kernel
theorem d_Mo_joinFromRow_164 : decode prog_1_method_4_code 164 = .ok (.iload 7, 2) := by decide +kernel
theorem d_Mo_joinFromRow_166 : decode prog_1_method_4_code 166 = .ok (.iload 8, 2) := by decide +kernel
theorem d_Mo_joinFromRow_168 : decode prog_1_method_4_code 168 = .ok (.invokevirtual 102, 3) := by decide +kernel
theorem d_Mo_joinFromRow_171 : decode prog_1_method_4_code 171 = .ok (.pop, 1) := by decide +kernel
theorem d_Mo_joinFromRow_172 : decode prog_1_method_4_code 172 = .ok (.iinc 4 1, 3) := by decide +kernel
theorem d_Mo_joinFromRow_175 : decode prog_1_method_4_code 175 = .ok (.goto (-172), 3) := by decide +kernel
theorem d_Mo_joinFromRow_178 : decode prog_1_method_4_code 178 = .ok (.iload_n 3, 1) := by decide +kernel
theorem d_Mo_joinFromRow_179 : decode prog_1_method_4_code 179 = .ok (.ireturn, 1) := by decide +kernel
theorem d_Mo_mend_0 : decode prog_1_method_5_code 0 = .ok (.aload_n 0, 1) := by decide +kernel
theorem d_Mo_mend_1 : decode prog_1_method_5_code 1 = .ok (.getfield 10, 3) := by decide +kernel
theorem d_Mo_mend_4 : decode prog_1_method_5_code 4 = .ok (.iload_n 1, 1) := by decide +kernel
theorem d_Mo_mend_5 : decode prog_1_method_5_code 5 = .ok (.invokevirtual 126, 3) := by decide +kernel
theorem d_Mo_mend_8 : decode prog_1_method_5_code 8 = .ok (.ifCond .eq 11, 3) := by decide +kernel
theorem d_Mo_mend_11 : decode prog_1_method_5_code 11 = .ok (.iload_n 2, 1) := by decide +kernel
theorem d_Mo_mend_12 : decode prog_1_method_5_code 12 = .ok (.iload_n 3, 1) := by decide +kernel
theorem d_Mo_mend_13 : decode prog_1_method_5_code 13 = .ok (.invokestatic 94, 3) := by decide +kernel
theorem d_Mo_mend_16 : decode prog_1_method_5_code 16 = .ok (.ifCond .ne 5, 3) := by decide +kernel
theorem d_Mo_mend_19 : decode prog_1_method_5_code 19 = .ok (.iconst (-1), 1) := by decide +kernel
theorem d_Mo_mend_20 : decode prog_1_method_5_code 20 = .ok (.ireturn, 1) := by decide +kernel
theorem d_Mo_mend_21 : decode prog_1_method_5_code 21 = .ok (.aload_n 0, 1) := by decide +kernel
theorem d_Mo_mend_22 : decode prog_1_method_5_code 22 = .ok (.getfield 10, 3) := by decide +kernel
theorem d_Mo_mend_25 : decode prog_1_method_5_code 25 = .ok (.iload_n 2, 1) := by decide +kernel
theorem d_Mo_mend_26 : decode prog_1_method_5_code 26 = .ok (.iload_n 1, 1) := by decide +kernel
theorem d_Mo_mend_27 : decode prog_1_method_5_code 27 = .ok (.invokevirtual 129, 3) := by decide +kernel
theorem d_Mo_mend_30 : decode prog_1_method_5_code 30 = .ok (.istore 4, 2) := by decide +kernel
theorem d_Mo_mend_32 : decode prog_1_method_5_code 32 = .ok (.iload 4, 2) := by decide +kernel
theorem d_Mo_mend_34 : decode prog_1_method_5_code 34 = .ok (.iload_n 3, 1) := by decide +kernel
theorem d_Mo_mend_35 : decode prog_1_method_5_code 35 = .ok (.if_icmp .eq 13, 3) := by decide +kernel
theorem d_Mo_mend_38 : decode prog_1_method_5_code 38 = .ok (.aload_n 0, 1) := by decide +kernel
theorem d_Mo_mend_39 : decode prog_1_method_5_code 39 = .ok (.getfield 83, 3) := by decide +kernel
theorem d_Mo_mend_42 : decode prog_1_method_5_code 42 = .ok (.iload_n 1, 1) := by decide +kernel
theorem d_Mo_mend_43 : decode prog_1_method_5_code 43 = .ok (.iload_n 2, 1) := by decide +kernel
theorem d_Mo_mend_44 : decode prog_1_method_5_code 44 = .ok (.iload_n 3, 1) := by decide +kernel
theorem d_Mo_mend_45 : decode prog_1_method_5_code 45 = .ok (.invokevirtual 133, 3) := by decide +kernel
theorem d_Mo_mend_48 : decode prog_1_method_5_code 48 = .ok (.iload 4, 2) := by decide +kernel
theorem d_Mo_mend_50 : decode prog_1_method_5_code 50 = .ok (.ireturn, 1) := by decide +kernel
theorem d_Mo_of_0 : decode prog_1_method_6_code 0 = .ok (.aload_n 0, 1) := by decide +kernel
theorem d_Mo_of_1 : decode prog_1_method_6_code 1 = .ok (.getfield 10, 3) := by decide +kernel
theorem d_Mo_of_4 : decode prog_1_method_6_code 4 = .ok (.iload_n 1, 1) := by decide +kernel
theorem d_Mo_of_5 : decode prog_1_method_6_code 5 = .ok (.invokevirtual 126, 3) := by decide +kernel
theorem d_Mo_of_8 : decode prog_1_method_6_code 8 = .ok (.ifCond .ne 5, 3) := by decide +kernel
theorem d_Mo_of_11 : decode prog_1_method_6_code 11 = .ok (.iconst (-1), 1) := by decide +kernel
theorem d_Mo_of_12 : decode prog_1_method_6_code 12 = .ok (.ireturn, 1) := by decide +kernel
theorem d_Mo_of_13 : decode prog_1_method_6_code 13 = .ok (.iload_n 2, 1) := by decide +kernel
theorem d_Mo_of_14 : decode prog_1_method_6_code 14 = .ok (.invokestatic 137, 3) := by decide +kernel
theorem d_Mo_of_17 : decode prog_1_method_6_code 17 = .ok (.ifCond .eq 13, 3) := by decide +kernel
theorem d_Mo_of_20 : decode prog_1_method_6_code 20 = .ok (.aload_n 0, 1) := by decide +kernel
theorem d_Mo_of_21 : decode prog_1_method_6_code 21 = .ok (.getfield 10, 3) := by decide +kernel
theorem d_Mo_of_24 : decode prog_1_method_6_code 24 = .ok (.iload_n 2, 1) := by decide +kernel
theorem d_Mo_of_25 : decode prog_1_method_6_code 25 = .ok (.iload_n 1, 1) := by decide +kernel
theorem d_Mo_of_26 : decode prog_1_method_6_code 26 = .ok (.invokevirtual 129, 3) := by decide +kernel
theorem d_Mo_of_29 : decode prog_1_method_6_code 29 = .ok (.ireturn, 1) := by decide +kernel
theorem d_Mo_of_30 : decode prog_1_method_6_code 30 = .ok (.iload_n 2, 1) := by decide +kernel
theorem d_Mo_of_31 : decode prog_1_method_6_code 31 = .ok (.bipush 10, 2) := by decide +kernel
theorem d_Mo_of_33 : decode prog_1_method_6_code 33 = .ok (.if_icmp .ne 15, 3) := by decide +kernel
theorem d_Mo_of_36 : decode prog_1_method_6_code 36 = .ok (.aload_n 0, 1) := by decide +kernel
theorem d_Mo_of_37 : decode prog_1_method_6_code 37 = .ok (.getfield 74, 3) := by decide +kernel
theorem d_Mo_of_40 : decode prog_1_method_6_code 40 = .ok (.invokevirtual 140, 3) := by decide +kernel
theorem d_Mo_of_43 : decode prog_1_method_6_code 43 = .ok (.iload_n 1, 1) := by decide +kernel
theorem d_Mo_of_44 : decode prog_1_method_6_code 44 = .ok (.ishr, 1) := by decide +kernel
theorem d_Mo_of_45 : decode prog_1_method_6_code 45 = .ok (.iconst 1, 1) := by decide +kernel
theorem d_Mo_of_46 : decode prog_1_method_6_code 46 = .ok (.iand, 1) := by decide +kernel
theorem d_Mo_of_47 : decode prog_1_method_6_code 47 = .ok (.ireturn, 1) := by decide +kernel
theorem d_Mo_of_48 : decode prog_1_method_6_code 48 = .ok (.iload_n 2, 1) := by decide +kernel
theorem d_Mo_of_49 : decode prog_1_method_6_code 49 = .ok (.bipush 11, 2) := by decide +kernel
theorem d_Mo_of_51 : decode prog_1_method_6_code 51 = .ok (.if_icmp .ne 12, 3) := by decide +kernel
theorem d_Mo_of_54 : decode prog_1_method_6_code 54 = .ok (.aload_n 0, 1) := by decide +kernel
theorem d_Mo_of_55 : decode prog_1_method_6_code 55 = .ok (.getfield 74, 3) := by decide +kernel
theorem d_Mo_of_58 : decode prog_1_method_6_code 58 = .ok (.iload_n 1, 1) := by decide +kernel
theorem d_Mo_of_59 : decode prog_1_method_6_code 59 = .ok (.invokevirtual 143, 3) := by decide +kernel
theorem d_Mo_of_62 : decode prog_1_method_6_code 62 = .ok (.ireturn, 1) := by decide +kernel
theorem d_Mo_of_63 : decode prog_1_method_6_code 63 = .ok (.iconst (-1), 1) := by decide +kernel
theorem d_Mo_of_64 : decode prog_1_method_6_code 64 = .ok (.ireturn, 1) := by decide +kernel
theorem d_Mo_feed_0 : decode prog_1_method_7_code 0 = .ok (.iload_n 1, 1) := by decide +kernel
theorem d_Mo_feed_1 : decode prog_1_method_7_code 1 = .ok (.ifCond .lt 10, 3) := by decide +kernel
theorem d_Mo_feed_4 : decode prog_1_method_7_code 4 = .ok (.iload_n 1, 1) := by decide +kernel
theorem d_Mo_feed_5 : decode prog_1_method_7_code 5 = .ok (.sipush 255, 3) := by decide +kernel
theorem d_Mo_feed_8 : decode prog_1_method_7_code 8 = .ok (.if_icmp .le 5, 3) := by decide +kernel
theorem d_Mo_feed_11 : decode prog_1_method_7_code 11 = .ok (.iconst (-1), 1) := by decide +kernel
theorem d_Mo_feed_12 : decode prog_1_method_7_code 12 = .ok (.ireturn, 1) := by decide +kernel
theorem d_Mo_feed_13 : decode prog_1_method_7_code 13 = .ok (.aload_n 0, 1) := by decide +kernel
theorem d_Mo_feed_14 : decode prog_1_method_7_code 14 = .ok (.getfield 26, 3) := by decide +kernel
theorem d_Mo_feed_17 : decode prog_1_method_7_code 17 = .ok (.invokevirtual 147, 3) := by decide +kernel
theorem d_Mo_feed_20 : decode prog_1_method_7_code 20 = .ok (.ifCond .eq 6, 3) := by decide +kernel
theorem d_Mo_feed_23 : decode prog_1_method_7_code 23 = .ok (.bipush (-3), 2) := by decide +kernel
theorem d_Mo_feed_25 : decode prog_1_method_7_code 25 = .ok (.ireturn, 1) := by decide +kernel
theorem d_Mo_feed_26 : decode prog_1_method_7_code 26 = .ok (.aload_n 0, 1) := by decide +kernel
theorem d_Mo_feed_27 : decode prog_1_method_7_code 27 = .ok (.getfield 26, 3) := by decide +kernel
theorem d_Mo_feed_30 : decode prog_1_method_7_code 30 = .ok (.iload_n 1, 1) := by decide +kernel
theorem d_Mo_feed_31 : decode prog_1_method_7_code 31 = .ok (.invokevirtual 151, 3) := by decide +kernel
theorem d_Mo_feed_34 : decode prog_1_method_7_code 34 = .ok (.ireturn, 1) := by decide +kernel
theorem d_Mo_law_0 : decode prog_1_method_8_code 0 = .ok (.aload_n 0, 1) := by decide +kernel
theorem d_Mo_law_1 : decode prog_1_method_8_code 1 = .ok (.getfield 26, 3) := by decide +kernel
theorem d_Mo_law_4 : decode prog_1_method_8_code 4 = .ok (.invokevirtual 154, 3) := by decide +kernel
theorem d_Mo_law_7 : decode prog_1_method_8_code 7 = .ok (.istore_n 1, 1) := by decide +kernel
theorem d_Mo_law_8 : decode prog_1_method_8_code 8 = .ok (.iload_n 1, 1) := by decide +kernel
theorem d_Mo_law_9 : decode prog_1_method_8_code 9 = .ok (.ifCond .ge 14, 3) := by decide +kernel
theorem d_Mo_law_12 : decode prog_1_method_8_code 12 = .ok (.aload_n 0, 1) := by decide +kernel
theorem d_Mo_law_13 : decode prog_1_method_8_code 13 = .ok (.getfield 19, 3) := by decide +kernel
theorem d_Mo_law_16 : decode prog_1_method_8_code 16 = .ok (.aload_n 0, 1) := by decide +kernel
theorem d_Mo_law_17 : decode prog_1_method_8_code 17 = .ok (.getfield 26, 3) := by decide +kernel
theorem d_Mo_law_20 : decode prog_1_method_8_code 20 = .ok (.invokevirtual 157, 3) := by decide +kernel
theorem d_Mo_law_23 : decode prog_1_method_8_code 23 = .ok (.aload_n 0, 1) := by decide +kernel
theorem d_Mo_law_24 : decode prog_1_method_8_code 24 = .ok (.getfield 26, 3) := by decide +kernel
theorem d_Mo_law_27 : decode prog_1_method_8_code 27 = .ok (.invokevirtual 161, 3) := by decide +kernel
theorem d_Mo_law_30 : decode prog_1_method_8_code 30 = .ok (.iload_n 1, 1) := by decide +kernel
theorem d_Mo_law_31 : decode prog_1_method_8_code 31 = .ok (.ifCond .ge 7, 3) := by decide +kernel
theorem d_Mo_law_34 : decode prog_1_method_8_code 34 = .ok (.iconst 1, 1) := by decide +kernel
theorem d_Mo_law_35 : decode prog_1_method_8_code 35 = .ok (.goto 7, 3) := by decide +kernel
theorem d_Mo_law_38 : decode prog_1_method_8_code 38 = .ok (.bipush (-100), 2) := by decide +kernel
theorem d_Mo_law_40 : decode prog_1_method_8_code 40 = .ok (.iload_n 1, 1) := by decide +kernel
theorem d_Mo_law_41 : decode prog_1_method_8_code 41 = .ok (.isub, 1) := by decide +kernel
theorem d_Mo_law_42 : decode prog_1_method_8_code 42 = .ok (.ireturn, 1) := by decide +kernel
theorem d_Mo_tall_0 : decode prog_1_method_9_code 0 = .ok (.aload_n 0, 1) := by decide +kernel
theorem d_Mo_tall_1 : decode prog_1_method_9_code 1 = .ok (.getfield 10, 3) := by decide +kernel
theorem d_Mo_tall_4 : decode prog_1_method_9_code 4 = .ok (.iload_n 1, 1) := by decide +kernel
theorem d_Mo_tall_5 : decode prog_1_method_9_code 5 = .ok (.invokevirtual 126, 3) := by decide +kernel
theorem d_Mo_tall_8 : decode prog_1_method_9_code 8 = .ok (.ifCond .eq 17, 3) := by decide +kernel
theorem d_Mo_tall_11 : decode prog_1_method_9_code 11 = .ok (.iload_n 2, 1) := by decide +kernel
theorem d_Mo_tall_12 : decode prog_1_method_9_code 12 = .ok (.ifCond .lt 13, 3) := by decide +kernel
theorem d_Mo_tall_15 : decode prog_1_method_9_code 15 = .ok (.iload_n 2, 1) := by decide +kernel
theorem d_Mo_tall_16 : decode prog_1_method_9_code 16 = .ok (.bipush 100, 2) := by decide +kernel
theorem d_Mo_tall_18 : decode prog_1_method_9_code 18 = .ok (.idiv, 1) := by decide +kernel
theorem d_Mo_tall_19 : decode prog_1_method_9_code 19 = .ok (.sipush 999, 3) := by decide +kernel
theorem d_Mo_tall_22 : decode prog_1_method_9_code 22 = .ok (.if_icmp .le 6, 3) := by decide +kernel
theorem d_Mo_tall_25 : decode prog_1_method_9_code 25 = .ok (.ldc 164, 2) := by decide +kernel
theorem d_Mo_tall_27 : decode prog_1_method_9_code 27 = .ok (.ireturn, 1) := by decide +kernel
theorem d_Mo_tall_28 : decode prog_1_method_9_code 28 = .ok (.aload_n 0, 1) := by decide +kernel
theorem d_Mo_tall_29 : decode prog_1_method_9_code 29 = .ok (.getfield 19, 3) := by decide +kernel
theorem d_Mo_tall_32 : decode prog_1_method_9_code 32 = .ok (.aload_n 0, 1) := by decide +kernel
theorem d_Mo_tall_33 : decode prog_1_method_9_code 33 = .ok (.getfield 10, 3) := by decide +kernel
theorem d_Mo_tall_36 : decode prog_1_method_9_code 36 = .ok (.iload_n 1, 1) := by decide +kernel
theorem d_Mo_tall_37 : decode prog_1_method_9_code 37 = .ok (.iload_n 2, 1) := by decide +kernel
theorem d_Mo_tall_38 : decode prog_1_method_9_code 38 = .ok (.bipush 100, 2) := by decide +kernel
theorem d_Mo_tall_40 : decode prog_1_method_9_code 40 = .ok (.idiv, 1) := by decide +kernel
theorem d_Mo_tall_41 : decode prog_1_method_9_code 41 = .ok (.iload_n 2, 1) := by decide +kernel
theorem d_Mo_tall_42 : decode prog_1_method_9_code 42 = .ok (.bipush 100, 2) := by decide +kernel
theorem d_Mo_tall_44 : decode prog_1_method_9_code 44 = .ok (.irem, 1) := by decide +kernel
theorem d_Mo_tall_45 : decode prog_1_method_9_code 45 = .ok (.invokevirtual 165, 3) := by decide +kernel
theorem d_Mo_tall_48 : decode prog_1_method_9_code 48 = .ok (.ireturn, 1) := by decide +kernel
theorem d_Mo_enters_0 : decode prog_1_method_10_code 0 = .ok (.aload_n 0, 1) := by decide +kernel
theorem d_Mo_enters_1 : decode prog_1_method_10_code 1 = .ok (.getfield 10, 3) := by decide +kernel
theorem d_Mo_enters_4 : decode prog_1_method_10_code 4 = .ok (.iload_n 1, 1) := by decide +kernel
theorem d_Mo_enters_5 : decode prog_1_method_10_code 5 = .ok (.invokevirtual 126, 3) := by decide +kernel
theorem d_Mo_enters_8 : decode prog_1_method_10_code 8 = .ok (.ifCond .eq 10, 3) := by decide +kernel
theorem d_Mo_enters_11 : decode prog_1_method_10_code 11 = .ok (.iload_n 2, 1) := by decide +kernel
theorem d_Mo_enters_12 : decode prog_1_method_10_code 12 = .ok (.invokestatic 169, 3) := by decide +kernel
theorem d_Mo_enters_15 : decode prog_1_method_10_code 15 = .ok (.ifCond .ne 5, 3) := by decide +kernel
theorem d_Mo_enters_18 : decode prog_1_method_10_code 18 = .ok (.iconst (-1), 1) := by decide +kernel
theorem d_Mo_enters_19 : decode prog_1_method_10_code 19 = .ok (.ireturn, 1) := by decide +kernel
theorem d_Mo_enters_20 : decode prog_1_method_10_code 20 = .ok (.aload_n 0, 1) := by decide +kernel
theorem d_Mo_enters_21 : decode prog_1_method_10_code 21 = .ok (.getfield 40, 3) := by decide +kernel
theorem d_Mo_enters_24 : decode prog_1_method_10_code 24 = .ok (.aload_n 0, 1) := by decide +kernel
theorem d_Mo_enters_25 : decode prog_1_method_10_code 25 = .ok (.getfield 10, 3) := by decide +kernel
theorem d_Mo_enters_28 : decode prog_1_method_10_code 28 = .ok (.invokevirtual 172, 3) := by decide +kernel
theorem d_Mo_enters_31 : decode prog_1_method_10_code 31 = .ok (.aload_n 0, 1) := by decide +kernel
theorem d_Mo_enters_32 : decode prog_1_method_10_code 32 = .ok (.getfield 40, 3) := by decide +kernel
theorem d_Mo_enters_35 : decode prog_1_method_10_code 35 = .ok (.iload_n 1, 1) := by decide +kernel
theorem d_Mo_enters_36 : decode prog_1_method_10_code 36 = .ok (.iload_n 2, 1) := by decide +kernel
theorem d_Mo_enters_37 : decode prog_1_method_10_code 37 = .ok (.invokevirtual 175, 3) := by decide +kernel
theorem d_Mo_enters_40 : decode prog_1_method_10_code 40 = .ok (.ireturn, 1) := by decide +kernel
theorem d_Mo_stroke_0 : decode prog_1_method_11_code 0 = .ok (.iload_n 1, 1) := by decide +kernel
theorem d_Mo_stroke_1 : decode prog_1_method_11_code 1 = .ok (.ifCond .lt 16, 3) := by decide +kernel
theorem d_Mo_stroke_4 : decode prog_1_method_11_code 4 = .ok (.iload_n 1, 1) := by decide +kernel
theorem d_Mo_stroke_5 : decode prog_1_method_11_code 5 = .ok (.bipush 100, 2) := by decide +kernel
theorem d_Mo_stroke_7 : decode prog_1_method_11_code 7 = .ok (.if_icmp .ge 10, 3) := by decide +kernel
theorem d_Mo_stroke_10 : decode prog_1_method_11_code 10 = .ok (.iload_n 2, 1) := by decide +kernel
theorem d_Mo_stroke_11 : decode prog_1_method_11_code 11 = .ok (.invokestatic 178, 3) := by decide +kernel
theorem d_Mo_stroke_14 : decode prog_1_method_11_code 14 = .ok (.ifCond .ne 5, 3) := by decide +kernel
theorem d_Mo_stroke_17 : decode prog_1_method_11_code 17 = .ok (.iconst (-1), 1) := by decide +kernel
theorem d_Mo_stroke_18 : decode prog_1_method_11_code 18 = .ok (.ireturn, 1) := by decide +kernel
theorem d_Mo_stroke_19 : decode prog_1_method_11_code 19 = .ok (.aload_n 0, 1) := by decide +kernel
theorem d_Mo_stroke_20 : decode prog_1_method_11_code 20 = .ok (.getfield 40, 3) := by decide +kernel
theorem d_Mo_stroke_23 : decode prog_1_method_11_code 23 = .ok (.aload_n 0, 1) := by decide +kernel
theorem d_Mo_stroke_24 : decode prog_1_method_11_code 24 = .ok (.getfield 10, 3) := by decide +kernel
theorem d_Mo_stroke_27 : decode prog_1_method_11_code 27 = .ok (.invokevirtual 172, 3) := by decide +kernel
theorem d_Mo_stroke_30 : decode prog_1_method_11_code 30 = .ok (.aload_n 0, 1) := by decide +kernel
theorem d_Mo_stroke_31 : decode prog_1_method_11_code 31 = .ok (.getfield 40, 3) := by decide +kernel
theorem d_Mo_stroke_34 : decode prog_1_method_11_code 34 = .ok (.iload_n 1, 1) := by decide +kernel
theorem d_Mo_stroke_35 : decode prog_1_method_11_code 35 = .ok (.iconst 5, 1) := by decide +kernel
theorem d_Mo_stroke_36 : decode prog_1_method_11_code 36 = .ok (.invokevirtual 181, 3) := by decide +kernel
theorem d_Mo_stroke_39 : decode prog_1_method_11_code 39 = .ok (.pop, 1) := by decide +kernel
theorem d_Mo_stroke_40 : decode prog_1_method_11_code 40 = .ok (.aload_n 0, 1) := by decide +kernel
theorem d_Mo_stroke_41 : decode prog_1_method_11_code 41 = .ok (.getfield 40, 3) := by decide +kernel
theorem d_Mo_stroke_44 : decode prog_1_method_11_code 44 = .ok (.iload_n 1, 1) := by decide +kernel
theorem d_Mo_stroke_45 : decode prog_1_method_11_code 45 = .ok (.invokevirtual 184, 3) := by decide +kernel
theorem d_Mo_stroke_48 : decode prog_1_method_11_code 48 = .ok (.istore_n 3, 1) := by decide +kernel
theorem d_Mo_stroke_49 : decode prog_1_method_11_code 49 = .ok (.iload_n 2, 1) := by decide +kernel
theorem d_Mo_stroke_50 : decode prog_1_method_11_code 50 = .ok (.iconst 1, 1) := by decide +kernel
theorem d_Mo_stroke_51 : decode prog_1_method_11_code 51 = .ok (.if_icmp .ne 11, 3) := by decide +kernel
theorem d_Mo_stroke_54 : decode prog_1_method_11_code 54 = .ok (.aload_n 0, 1) := by decide +kernel
theorem d_Mo_stroke_55 : decode prog_1_method_11_code 55 = .ok (.getfield 40, 3) := by decide +kernel
theorem d_Mo_stroke_58 : decode prog_1_method_11_code 58 = .ok (.invokevirtual 187, 3) := by decide +kernel
theorem d_Mo_stroke_61 : decode prog_1_method_11_code 61 = .ok (.ireturn, 1) := by decide +kernel
theorem d_Mo_stroke_62 : decode prog_1_method_11_code 62 = .ok (.iload_n 3, 1) := by decide +kernel
theorem d_Mo_stroke_63 : decode prog_1_method_11_code 63 = .ok (.iconst (-1), 1) := by decide +kernel
theorem d_Mo_stroke_64 : decode prog_1_method_11_code 64 = .ok (.if_icmp .ne 8, 3) := by decide +kernel
theorem d_Mo_stroke_67 : decode prog_1_method_11_code 67 = .ok (.bipush (-2), 2) := by decide +kernel
theorem d_Mo_stroke_69 : decode prog_1_method_11_code 69 = .ok (.goto 4, 3) := by decide +kernel
theorem d_Mo_stroke_72 : decode prog_1_method_11_code 72 = .ok (.iload_n 3, 1) := by decide +kernel
theorem d_Mo_stroke_73 : decode prog_1_method_11_code 73 = .ok (.ireturn, 1) := by decide +kernel
theorem d_Mo_day_0 : decode prog_1_method_12_code 0 = .ok (.iload_n 1, 1) := by decide +kernel
theorem d_Mo_day_1 : decode prog_1_method_12_code 1 = .ok (.invokestatic 169, 3) := by decide +kernel
theorem d_Mo_day_4 : decode prog_1_method_12_code 4 = .ok (.ifCond .eq 12, 3) := by decide +kernel
theorem d_Mo_day_7 : decode prog_1_method_12_code 7 = .ok (.iload_n 2, 1) := by decide +kernel
theorem d_Mo_day_8 : decode prog_1_method_12_code 8 = .ok (.ifCond .lt 8, 3) := by decide +kernel
theorem d_Mo_day_11 : decode prog_1_method_12_code 11 = .ok (.iload_n 2, 1) := by decide +kernel
theorem d_Mo_day_12 : decode prog_1_method_12_code 12 = .ok (.iconst 2, 1) := by decide +kernel
theorem d_Mo_day_13 : decode prog_1_method_12_code 13 = .ok (.if_icmp .le 5, 3) := by decide +kernel
theorem d_Mo_day_16 : decode prog_1_method_12_code 16 = .ok (.iconst (-1), 1) := by decide +kernel
theorem d_Mo_day_17 : decode prog_1_method_12_code 17 = .ok (.ireturn, 1) := by decide +kernel
theorem d_Mo_day_18 : decode prog_1_method_12_code 18 = .ok (.aload_n 0, 1) := by decide +kernel
theorem d_Mo_day_19 : decode prog_1_method_12_code 19 = .ok (.getfield 40, 3) := by decide +kernel
theorem d_Mo_day_22 : decode prog_1_method_12_code 22 = .ok (.aload_n 0, 1) := by decide +kernel
theorem d_Mo_day_23 : decode prog_1_method_12_code 23 = .ok (.getfield 10, 3) := by decide +kernel
theorem d_Mo_day_26 : decode prog_1_method_12_code 26 = .ok (.invokevirtual 172, 3) := by decide +kernel
theorem d_Mo_day_29 : decode prog_1_method_12_code 29 = .ok (.aload_n 0, 1) := by decide +kernel
theorem d_Mo_day_30 : decode prog_1_method_12_code 30 = .ok (.getfield 40, 3) := by decide +kernel
theorem d_Mo_day_33 : decode prog_1_method_12_code 33 = .ok (.iload_n 1, 1) := by decide +kernel
theorem d_Mo_day_34 : decode prog_1_method_12_code 34 = .ok (.iconst 5, 1) := by decide +kernel
theorem d_Mo_day_35 : decode prog_1_method_12_code 35 = .ok (.invokevirtual 181, 3) := by decide +kernel
theorem d_Mo_day_38 : decode prog_1_method_12_code 38 = .ok (.istore_n 3, 1) := by decide +kernel
theorem d_Mo_day_39 : decode prog_1_method_12_code 39 = .ok (.iload_n 2, 1) := by decide +kernel
theorem d_Mo_day_40 : decode prog_1_method_12_code 40 = .ok (.ifCond .ne 5, 3) := by decide +kernel
theorem d_Mo_day_43 : decode prog_1_method_12_code 43 = .ok (.iload_n 3, 1) := by decide +kernel
theorem d_Mo_day_44 : decode prog_1_method_12_code 44 = .ok (.ireturn, 1) := by decide +kernel
theorem d_Mo_day_45 : decode prog_1_method_12_code 45 = .ok (.iload_n 2, 1) := by decide +kernel
theorem d_Mo_day_46 : decode prog_1_method_12_code 46 = .ok (.iconst 1, 1) := by decide +kernel
theorem d_Mo_day_47 : decode prog_1_method_12_code 47 = .ok (.if_icmp .ne 14, 3) := by decide +kernel
theorem d_Mo_day_50 : decode prog_1_method_12_code 50 = .ok (.aload_n 0, 1) := by decide +kernel
theorem d_Mo_day_51 : decode prog_1_method_12_code 51 = .ok (.getfield 40, 3) := by decide +kernel
theorem d_Mo_day_54 : decode prog_1_method_12_code 54 = .ok (.iload_n 1, 1) := by decide +kernel
theorem d_Mo_day_55 : decode prog_1_method_12_code 55 = .ok (.invokevirtual 190, 3) := by decide +kernel
theorem d_Mo_day_58 : decode prog_1_method_12_code 58 = .ok (.goto 10, 3) := by decide +kernel
theorem d_Mo_day_61 : decode prog_1_method_12_code 61 = .ok (.aload_n 0, 1) := by decide +kernel
theorem d_Mo_day_62 : decode prog_1_method_12_code 62 = .ok (.getfield 40, 3) := by decide +kernel
theorem d_Mo_day_65 : decode prog_1_method_12_code 65 = .ok (.invokevirtual 193, 3) := by decide +kernel
theorem d_Mo_day_68 : decode prog_1_method_12_code 68 = .ok (.ireturn, 1) := by decide +kernel
theorem d_Mo_mean_0 : decode prog_1_method_13_code 0 = .ok (.iload_n 1, 1) := by decide +kernel
theorem d_Mo_mean_1 : decode prog_1_method_13_code 1 = .ok (.invokestatic 169, 3) := by decide +kernel
theorem d_Mo_mean_4 : decode prog_1_method_13_code 4 = .ok (.ifCond .eq 17, 3) := by decide +kernel
theorem d_Mo_mean_7 : decode prog_1_method_13_code 7 = .ok (.iload_n 2, 1) := by decide +kernel
theorem d_Mo_mean_8 : decode prog_1_method_13_code 8 = .ok (.invokestatic 178, 3) := by decide +kernel
theorem d_Mo_mean_11 : decode prog_1_method_13_code 11 = .ok (.ifCond .eq 10, 3) := by decide +kernel
theorem d_Mo_mean_14 : decode prog_1_method_13_code 14 = .ok (.iload_n 3, 1) := by decide +kernel
theorem d_Mo_mean_15 : decode prog_1_method_13_code 15 = .ok (.invokestatic 178, 3) := by decide +kernel
theorem d_Mo_mean_18 : decode prog_1_method_13_code 18 = .ok (.ifCond .ne 7, 3) := by decide +kernel
theorem d_Mo_mean_21 : decode prog_1_method_13_code 21 = .ok (.ldc2_w 198, 3) := by decide +kernel
theorem d_Mo_mean_24 : decode prog_1_method_13_code 24 = .ok (.lreturn, 1) := by decide +kernel
theorem d_Mo_mean_25 : decode prog_1_method_13_code 25 = .ok (.aload_n 0, 1) := by decide +kernel
theorem d_Mo_mean_26 : decode prog_1_method_13_code 26 = .ok (.getfield 40, 3) := by decide +kernel
theorem d_Mo_mean_29 : decode prog_1_method_13_code 29 = .ok (.aload_n 0, 1) := by decide +kernel
theorem d_Mo_mean_30 : decode prog_1_method_13_code 30 = .ok (.getfield 10, 3) := by decide +kernel
theorem d_Mo_mean_33 : decode prog_1_method_13_code 33 = .ok (.invokevirtual 172, 3) := by decide +kernel
theorem d_Mo_mean_36 : decode prog_1_method_13_code 36 = .ok (.aload_n 0, 1) := by decide +kernel
theorem d_Mo_mean_37 : decode prog_1_method_13_code 37 = .ok (.getfield 40, 3) := by decide +kernel
theorem d_Mo_mean_40 : decode prog_1_method_13_code 40 = .ok (.iload_n 1, 1) := by decide +kernel
theorem d_Mo_mean_41 : decode prog_1_method_13_code 41 = .ok (.iconst 5, 1) := by decide +kernel
theorem d_Mo_mean_42 : decode prog_1_method_13_code 42 = .ok (.invokevirtual 181, 3) := by decide +kernel
theorem d_Mo_mean_45 : decode prog_1_method_13_code 45 = .ok (.istore 4, 2) := by decide +kernel
theorem d_Mo_mean_47 : decode prog_1_method_13_code 47 = .ok (.iload 4, 2) := by decide +kernel
theorem d_Mo_mean_49 : decode prog_1_method_13_code 49 = .ok (.ifCond .ne 7, 3) := by decide +kernel
theorem d_Mo_mean_52 : decode prog_1_method_13_code 52 = .ok (.ldc2_w 200, 3) := by decide +kernel
theorem d_Mo_mean_55 : decode prog_1_method_13_code 55 = .ok (.lreturn, 1) := by decide +kernel
theorem d_Mo_mean_56 : decode prog_1_method_13_code 56 = .ok (.iload_n 2, 1) := by decide +kernel
theorem d_Mo_mean_57 : decode prog_1_method_13_code 57 = .ok (.ifCond .ne 13, 3) := by decide +kernel
theorem d_Mo_mean_60 : decode prog_1_method_13_code 60 = .ok (.aload_n 0, 1) := by decide +kernel
theorem d_Mo_mean_61 : decode prog_1_method_13_code 61 = .ok (.getfield 40, 3) := by decide +kernel
theorem d_Mo_mean_64 : decode prog_1_method_13_code 64 = .ok (.invokevirtual 202, 3) := by decide +kernel
theorem d_Mo_mean_67 : decode prog_1_method_13_code 67 = .ok (.goto 10, 3) := by decide +kernel
theorem d_Mo_mean_70 : decode prog_1_method_13_code 70 = .ok (.aload_n 0, 1) := by decide +kernel
theorem d_Mo_mean_71 : decode prog_1_method_13_code 71 = .ok (.getfield 40, 3) := by decide +kernel
theorem d_Mo_mean_74 : decode prog_1_method_13_code 74 = .ok (.invokevirtual 205, 3) := by decide +kernel
theorem d_Mo_mean_77 : decode prog_1_method_13_code 77 = .ok (.istore 5, 2) := by decide +kernel
theorem d_Mo_mean_79 : decode prog_1_method_13_code 79 = .ok (.iload 5, 2) := by decide +kernel
theorem d_Mo_mean_81 : decode prog_1_method_13_code 81 = .ok (.iload 4, 2) := by decide +kernel
theorem d_Mo_mean_83 : decode prog_1_method_13_code 83 = .ok (.invokestatic 208, 3) := by decide +kernel
theorem d_Mo_mean_86 : decode prog_1_method_13_code 86 = .ok (.istore 6, 2) := by decide +kernel
theorem d_Mo_mean_88 : decode prog_1_method_13_code 88 = .ok (.iload 6, 2) := by decide +kernel
theorem d_Mo_mean_90 : decode prog_1_method_13_code 90 = .ok (.iconst 1, 1) := by decide +kernel
theorem d_Mo_mean_91 : decode prog_1_method_13_code 91 = .ok (.if_icmp .ge 7, 3) := by decide +kernel
theorem d_Mo_mean_94 : decode prog_1_method_13_code 94 = .ok (.ldc2_w 200, 3) := by decide +kernel
theorem d_Mo_mean_97 : decode prog_1_method_13_code 97 = .ok (.lreturn, 1) := by decide +kernel
theorem d_Mo_mean_98 : decode prog_1_method_13_code 98 = .ok (.iload_n 3, 1) := by decide +kernel
theorem d_Mo_mean_99 : decode prog_1_method_13_code 99 = .ok (.ifCond .ne 12, 3) := by decide +kernel
theorem d_Mo_mean_102 : decode prog_1_method_13_code 102 = .ok (.iload 5, 2) := by decide +kernel
theorem d_Mo_mean_104 : decode prog_1_method_13_code 104 = .ok (.iload 6, 2) := by decide +kernel
theorem d_Mo_mean_106 : decode prog_1_method_13_code 106 = .ok (.idiv, 1) := by decide +kernel
theorem d_Mo_mean_107 : decode prog_1_method_13_code 107 = .ok (.i2l, 1) := by decide +kernel
theorem d_Mo_mean_108 : decode prog_1_method_13_code 108 = .ok (.goto 9, 3) := by decide +kernel
theorem d_Mo_mean_111 : decode prog_1_method_13_code 111 = .ok (.iload 4, 2) := by decide +kernel
theorem d_Mo_mean_113 : decode prog_1_method_13_code 113 = .ok (.iload 6, 2) := by decide +kernel
theorem d_Mo_mean_115 : decode prog_1_method_13_code 115 = .ok (.idiv, 1) := by decide +kernel
theorem d_Mo_mean_116 : decode prog_1_method_13_code 116 = .ok (.i2l, 1) := by decide +kernel
theorem d_Mo_mean_117 : decode prog_1_method_13_code 117 = .ok (.lreturn, 1) := by decide +kernel
theorem d_Mo_sharedDivisor_0 : decode prog_1_method_14_code 0 = .ok (.iload_n 0, 1) := by decide +kernel
theorem d_Mo_sharedDivisor_1 : decode prog_1_method_14_code 1 = .ok (.istore_n 2, 1) := by decide +kernel
theorem d_Mo_sharedDivisor_2 : decode prog_1_method_14_code 2 = .ok (.iload_n 1, 1) := by decide +kernel
theorem d_Mo_sharedDivisor_3 : decode prog_1_method_14_code 3 = .ok (.istore_n 3, 1) := by decide +kernel
theorem d_Mo_sharedDivisor_4 : decode prog_1_method_14_code 4 = .ok (.iconst 0, 1) := by decide +kernel
theorem d_Mo_sharedDivisor_5 : decode prog_1_method_14_code 5 = .ok (.istore 4, 2) := by decide +kernel
theorem d_Mo_sharedDivisor_7 : decode prog_1_method_14_code 7 = .ok (.iload 4, 2) := by decide +kernel
theorem d_Mo_sharedDivisor_9 : decode prog_1_method_14_code 9 = .ok (.bipush 100, 2) := by decide +kernel
theorem d_Mo_sharedDivisor_11 : decode prog_1_method_14_code 11 = .ok (.if_icmp .ge 23, 3) := by decide +kernel
theorem d_Mo_sharedDivisor_14 : decode prog_1_method_14_code 14 = .ok (.iload_n 3, 1) := by decide +kernel
theorem d_Mo_sharedDivisor_15 : decode prog_1_method_14_code 15 = .ok (.ifCond .eq 19, 3) := by decide +kernel
theorem d_Mo_sharedDivisor_18 : decode prog_1_method_14_code 18 = .ok (.iload_n 2, 1) := by decide +kernel
theorem d_Mo_sharedDivisor_19 : decode prog_1_method_14_code 19 = .ok (.iload_n 3, 1) := by decide +kernel
theorem d_Mo_sharedDivisor_20 : decode prog_1_method_14_code 20 = .ok (.irem, 1) := by decide +kernel
theorem d_Mo_sharedDivisor_21 : decode prog_1_method_14_code 21 = .ok (.istore 5, 2) := by decide +kernel
theorem d_Mo_sharedDivisor_23 : decode prog_1_method_14_code 23 = .ok (.iload_n 3, 1) := by decide +kernel
theorem d_Mo_sharedDivisor_24 : decode prog_1_method_14_code 24 = .ok (.istore_n 2, 1) := by decide +kernel
theorem d_Mo_sharedDivisor_25 : decode prog_1_method_14_code 25 = .ok (.iload 5, 2) := by decide +kernel
theorem d_Mo_sharedDivisor_27 : decode prog_1_method_14_code 27 = .ok (.istore_n 3, 1) := by decide +kernel
theorem d_Mo_sharedDivisor_28 : decode prog_1_method_14_code 28 = .ok (.iinc 4 1, 3) := by decide +kernel
theorem d_Mo_sharedDivisor_31 : decode prog_1_method_14_code 31 = .ok (.goto (-24), 3) := by decide +kernel
theorem d_Mo_sharedDivisor_34 : decode prog_1_method_14_code 34 = .ok (.iload_n 2, 1) := by decide +kernel
theorem d_Mo_sharedDivisor_35 : decode prog_1_method_14_code 35 = .ok (.ireturn, 1) := by decide +kernel
theorem d_Mo_sent_0 : decode prog_1_method_15_code 0 = .ok (.aload_n 0, 1) := by decide +kernel
theorem d_Mo_sent_1 : decode prog_1_method_15_code 1 = .ok (.getfield 10, 3) := by decide +kernel
theorem d_Mo_sent_4 : decode prog_1_method_15_code 4 = .ok (.iload_n 1, 1) := by decide +kernel
theorem d_Mo_sent_5 : decode prog_1_method_15_code 5 = .ok (.invokevirtual 126, 3) := by decide +kernel
theorem d_Mo_sent_8 : decode prog_1_method_15_code 8 = .ok (.ifCond .eq 33, 3) := by decide +kernel
theorem d_Mo_sent_11 : decode prog_1_method_15_code 11 = .ok (.iload_n 2, 1) := by decide +kernel
theorem d_Mo_sent_12 : decode prog_1_method_15_code 12 = .ok (.ifCond .lt 29, 3) := by decide +kernel
theorem d_Mo_sent_15 : decode prog_1_method_15_code 15 = .ok (.iload_n 2, 1) := by decide +kernel
theorem d_Mo_sent_16 : decode prog_1_method_15_code 16 = .ok (.bipush 10, 2) := by decide +kernel
theorem d_Mo_sent_18 : decode prog_1_method_15_code 18 = .ok (.idiv, 1) := by decide +kernel
theorem d_Mo_sent_19 : decode prog_1_method_15_code 19 = .ok (.bipush 30, 2) := by decide +kernel
theorem d_Mo_sent_21 : decode prog_1_method_15_code 21 = .ok (.if_icmp .gt 20, 3) := by decide +kernel
theorem d_Mo_sent_24 : decode prog_1_method_15_code 24 = .ok (.iload_n 2, 1) := by decide +kernel
theorem d_Mo_sent_25 : decode prog_1_method_15_code 25 = .ok (.bipush 10, 2) := by decide +kernel
theorem d_Mo_sent_27 : decode prog_1_method_15_code 27 = .ok (.irem, 1) := by decide +kernel
theorem d_Mo_sent_28 : decode prog_1_method_15_code 28 = .ok (.invokestatic 178, 3) := by decide +kernel
theorem d_Mo_sent_31 : decode prog_1_method_15_code 31 = .ok (.ifCond .eq 10, 3) := by decide +kernel
theorem d_Mo_sent_34 : decode prog_1_method_15_code 34 = .ok (.iload_n 3, 1) := by decide +kernel
theorem d_Mo_sent_35 : decode prog_1_method_15_code 35 = .ok (.invokestatic 178, 3) := by decide +kernel
theorem d_Mo_sent_38 : decode prog_1_method_15_code 38 = .ok (.ifCond .ne 5, 3) := by decide +kernel
theorem d_Mo_sent_41 : decode prog_1_method_15_code 41 = .ok (.iconst (-1), 1) := by decide +kernel
theorem d_Mo_sent_42 : decode prog_1_method_15_code 42 = .ok (.ireturn, 1) := by decide +kernel
theorem d_Mo_sent_43 : decode prog_1_method_15_code 43 = .ok (.aload_n 0, 1) := by decide +kernel
theorem d_Mo_sent_44 : decode prog_1_method_15_code 44 = .ok (.getfield 49, 3) := by decide +kernel
theorem d_Mo_sent_47 : decode prog_1_method_15_code 47 = .ok (.iload_n 1, 1) := by decide +kernel
theorem d_Mo_sent_48 : decode prog_1_method_15_code 48 = .ok (.iload_n 2, 1) := by decide +kernel
theorem d_Mo_sent_49 : decode prog_1_method_15_code 49 = .ok (.bipush 10, 2) := by decide +kernel
theorem d_Mo_sent_51 : decode prog_1_method_15_code 51 = .ok (.idiv, 1) := by decide +kernel
theorem d_Mo_sent_52 : decode prog_1_method_15_code 52 = .ok (.iload_n 2, 1) := by decide +kernel
theorem d_Mo_sent_53 : decode prog_1_method_15_code 53 = .ok (.bipush 10, 2) := by decide +kernel
theorem d_Mo_sent_55 : decode prog_1_method_15_code 55 = .ok (.irem, 1) := by decide +kernel
theorem d_Mo_sent_56 : decode prog_1_method_15_code 56 = .ok (.iconst 1, 1) := by decide +kernel
theorem d_Mo_sent_57 : decode prog_1_method_15_code 57 = .ok (.if_icmp .ne 7, 3) := by decide +kernel
theorem d_Mo_sent_60 : decode prog_1_method_15_code 60 = .ok (.iconst 1, 1) := by decide +kernel
theorem d_Mo_sent_61 : decode prog_1_method_15_code 61 = .ok (.goto 4, 3) := by decide +kernel
theorem d_Mo_sent_64 : decode prog_1_method_15_code 64 = .ok (.iconst 0, 1) := by decide +kernel
theorem d_Mo_sent_65 : decode prog_1_method_15_code 65 = .ok (.iload_n 3, 1) := by decide +kernel
theorem d_Mo_sent_66 : decode prog_1_method_15_code 66 = .ok (.invokevirtual 211, 3) := by decide +kernel
theorem d_Mo_sent_69 : decode prog_1_method_15_code 69 = .ok (.ireturn, 1) := by decide +kernel
theorem d_Mo_brought_0 : decode prog_1_method_16_code 0 = .ok (.aload_n 0, 1) := by decide +kernel
theorem d_Mo_brought_1 : decode prog_1_method_16_code 1 = .ok (.getfield 10, 3) := by decide +kernel
theorem d_Mo_brought_4 : decode prog_1_method_16_code 4 = .ok (.iload_n 1, 1) := by decide +kernel
theorem d_Mo_brought_5 : decode prog_1_method_16_code 5 = .ok (.invokevirtual 126, 3) := by decide +kernel
theorem d_Mo_brought_8 : decode prog_1_method_16_code 8 = .ok (.ifCond .eq 20, 3) := by decide +kernel
theorem d_Mo_brought_11 : decode prog_1_method_16_code 11 = .ok (.iload_n 2, 1) := by decide +kernel
theorem d_Mo_brought_12 : decode prog_1_method_16_code 12 = .ok (.ifCond .lt 16, 3) := by decide +kernel
theorem d_Mo_brought_15 : decode prog_1_method_16_code 15 = .ok (.iload_n 2, 1) := by decide +kernel
theorem d_Mo_brought_16 : decode prog_1_method_16_code 16 = .ok (.bipush 100, 2) := by decide +kernel
theorem d_Mo_brought_18 : decode prog_1_method_16_code 18 = .ok (.if_icmp .ge 10, 3) := by decide +kernel
theorem d_Mo_brought_21 : decode prog_1_method_16_code 21 = .ok (.iload_n 3, 1) := by decide +kernel
theorem d_Mo_brought_22 : decode prog_1_method_16_code 22 = .ok (.invokestatic 178, 3) := by decide +kernel
theorem d_Mo_brought_25 : decode prog_1_method_16_code 25 = .ok (.ifCond .ne 5, 3) := by decide +kernel
theorem d_Mo_brought_28 : decode prog_1_method_16_code 28 = .ok (.iconst (-1), 1) := by decide +kernel
theorem d_Mo_brought_29 : decode prog_1_method_16_code 29 = .ok (.ireturn, 1) := by decide +kernel
theorem d_Mo_brought_30 : decode prog_1_method_16_code 30 = .ok (.aload_n 0, 1) := by decide +kernel
theorem d_Mo_brought_31 : decode prog_1_method_16_code 31 = .ok (.getfield 49, 3) := by decide +kernel
theorem d_Mo_brought_34 : decode prog_1_method_16_code 34 = .ok (.iload_n 1, 1) := by decide +kernel
theorem d_Mo_brought_35 : decode prog_1_method_16_code 35 = .ok (.iload_n 2, 1) := by decide +kernel
theorem d_Mo_brought_36 : decode prog_1_method_16_code 36 = .ok (.iload_n 3, 1) := by decide +kernel
theorem d_Mo_brought_37 : decode prog_1_method_16_code 37 = .ok (.invokevirtual 215, 3) := by decide +kernel
theorem d_Mo_brought_40 : decode prog_1_method_16_code 40 = .ok (.ireturn, 1) := by decide +kernel
theorem d_Mo_heels_0 : decode prog_1_method_17_code 0 = .ok (.aload_n 0, 1) := by decide +kernel
theorem d_Mo_heels_1 : decode prog_1_method_17_code 1 = .ok (.getfield 10, 3) := by decide +kernel
theorem d_Mo_heels_4 : decode prog_1_method_17_code 4 = .ok (.iload_n 1, 1) := by decide +kernel
theorem d_Mo_heels_5 : decode prog_1_method_17_code 5 = .ok (.invokevirtual 126, 3) := by decide +kernel
theorem d_Mo_heels_8 : decode prog_1_method_17_code 8 = .ok (.ifCond .eq 19, 3) := by decide +kernel
theorem d_Mo_heels_11 : decode prog_1_method_17_code 11 = .ok (.iload_n 2, 1) := by decide +kernel
theorem d_Mo_heels_12 : decode prog_1_method_17_code 12 = .ok (.invokestatic 169, 3) := by decide +kernel
theorem d_Mo_heels_15 : decode prog_1_method_17_code 15 = .ok (.ifCond .eq 12, 3) := by decide +kernel
theorem d_Mo_heels_18 : decode prog_1_method_17_code 18 = .ok (.iload_n 3, 1) := by decide +kernel
theorem d_Mo_heels_19 : decode prog_1_method_17_code 19 = .ok (.ifCond .lt 8, 3) := by decide +kernel
theorem d_Mo_heels_22 : decode prog_1_method_17_code 22 = .ok (.iload_n 3, 1) := by decide +kernel
theorem d_Mo_heels_23 : decode prog_1_method_17_code 23 = .ok (.iconst 2, 1) := by decide +kernel
theorem d_Mo_heels_24 : decode prog_1_method_17_code 24 = .ok (.if_icmp .le 5, 3) := by decide +kernel
theorem d_Mo_heels_27 : decode prog_1_method_17_code 27 = .ok (.iconst (-1), 1) := by decide +kernel
theorem d_Mo_heels_28 : decode prog_1_method_17_code 28 = .ok (.ireturn, 1) := by decide +kernel
theorem d_Mo_heels_29 : decode prog_1_method_17_code 29 = .ok (.aload_n 0, 1) := by decide +kernel
theorem d_Mo_heels_30 : decode prog_1_method_17_code 30 = .ok (.getfield 49, 3) := by decide +kernel
theorem d_Mo_heels_33 : decode prog_1_method_17_code 33 = .ok (.iload_n 1, 1) := by decide +kernel
theorem d_Mo_heels_34 : decode prog_1_method_17_code 34 = .ok (.iload_n 2, 1) := by decide +kernel
theorem d_Mo_heels_35 : decode prog_1_method_17_code 35 = .ok (.iload_n 3, 1) := by decide +kernel
theorem d_Mo_heels_36 : decode prog_1_method_17_code 36 = .ok (.invokevirtual 218, 3) := by decide +kernel
theorem d_Mo_heels_39 : decode prog_1_method_17_code 39 = .ok (.ireturn, 1) := by decide +kernel
theorem d_Mo_later_0 : decode prog_1_method_18_code 0 = .ok (.aload_n 0, 1) := by decide +kernel
theorem d_Mo_later_1 : decode prog_1_method_18_code 1 = .ok (.getfield 10, 3) := by decide +kernel
theorem d_Mo_later_4 : decode prog_1_method_18_code 4 = .ok (.iload_n 1, 1) := by decide +kernel
theorem d_Mo_later_5 : decode prog_1_method_18_code 5 = .ok (.invokevirtual 126, 3) := by decide +kernel
theorem d_Mo_later_8 : decode prog_1_method_18_code 8 = .ok (.ifCond .ne 5, 3) := by decide +kernel
theorem d_Mo_later_11 : decode prog_1_method_18_code 11 = .ok (.iconst (-1), 1) := by decide +kernel
theorem d_Mo_later_12 : decode prog_1_method_18_code 12 = .ok (.ireturn, 1) := by decide +kernel
theorem d_Mo_later_13 : decode prog_1_method_18_code 13 = .ok (.aload_n 0, 1) := by decide +kernel
theorem d_Mo_later_14 : decode prog_1_method_18_code 14 = .ok (.getfield 49, 3) := by decide +kernel
theorem d_Mo_later_17 : decode prog_1_method_18_code 17 = .ok (.iload_n 1, 1) := by decide +kernel
theorem d_Mo_later_18 : decode prog_1_method_18_code 18 = .ok (.invokevirtual 221, 3) := by decide +kernel
theorem d_Mo_later_21 : decode prog_1_method_18_code 21 = .ok (.ireturn, 1) := by decide +kernel
theorem d_Mo_allWear_0 : decode prog_1_method_19_code 0 = .ok (.aload_n 0, 1) := by decide +kernel
theorem d_Mo_allWear_1 : decode prog_1_method_19_code 1 = .ok (.iload_n 1, 1) := by decide +kernel
theorem d_Mo_allWear_2 : decode prog_1_method_19_code 2 = .ok (.invokevirtual 224, 3) := by decide +kernel
theorem d_Mo_allWear_5 : decode prog_1_method_19_code 5 = .ok (.ifCond .ne 5, 3) := by decide +kernel
theorem d_Mo_allWear_8 : decode prog_1_method_19_code 8 = .ok (.iconst (-1), 1) := by decide +kernel
theorem d_Mo_allWear_9 : decode prog_1_method_19_code 9 = .ok (.ireturn, 1) := by decide +kernel
theorem d_Mo_allWear_10 : decode prog_1_method_19_code 10 = .ok (.aload_n 0, 1) := by decide +kernel
theorem d_Mo_allWear_11 : decode prog_1_method_19_code 11 = .ok (.getfield 49, 3) := by decide +kernel
theorem d_Mo_allWear_14 : decode prog_1_method_19_code 14 = .ok (.iload_n 1, 1) := by decide +kernel
theorem d_Mo_allWear_15 : decode prog_1_method_19_code 15 = .ok (.invokevirtual 227, 3) := by decide +kernel
theorem d_Mo_allWear_18 : decode prog_1_method_19_code 18 = .ok (.ireturn, 1) := by decide +kernel
theorem d_Mo_gates_0 : decode prog_1_method_20_code 0 = .ok (.iload_n 1, 1) := by decide +kernel
theorem d_Mo_gates_1 : decode prog_1_method_20_code 1 = .ok (.ifCond .lt 22, 3) := by decide +kernel
theorem d_Mo_gates_4 : decode prog_1_method_20_code 4 = .ok (.iload_n 1, 1) := by decide +kernel
theorem d_Mo_gates_5 : decode prog_1_method_20_code 5 = .ok (.aload_n 0, 1) := by decide +kernel
theorem d_Mo_gates_6 : decode prog_1_method_20_code 6 = .ok (.getfield 10, 3) := by decide +kernel
theorem d_Mo_gates_9 : decode prog_1_method_20_code 9 = .ok (.invokevirtual 230, 3) := by decide +kernel
theorem d_Mo_gates_12 : decode prog_1_method_20_code 12 = .ok (.if_icmp .gt 11, 3) := by decide +kernel
theorem d_Mo_gates_15 : decode prog_1_method_20_code 15 = .ok (.aload_n 0, 1) := by decide +kernel
theorem d_Mo_gates_16 : decode prog_1_method_20_code 16 = .ok (.iload_n 2, 1) := by decide +kernel
theorem d_Mo_gates_17 : decode prog_1_method_20_code 17 = .ok (.invokevirtual 224, 3) := by decide +kernel
theorem d_Mo_gates_20 : decode prog_1_method_20_code 20 = .ok (.ifCond .ne 5, 3) := by decide +kernel
theorem d_Mo_gates_23 : decode prog_1_method_20_code 23 = .ok (.iconst (-1), 1) := by decide +kernel
theorem d_Mo_gates_24 : decode prog_1_method_20_code 24 = .ok (.ireturn, 1) := by decide +kernel
theorem d_Mo_gates_25 : decode prog_1_method_20_code 25 = .ok (.aload_n 0, 1) := by decide +kernel
theorem d_Mo_gates_26 : decode prog_1_method_20_code 26 = .ok (.getfield 40, 3) := by decide +kernel
theorem d_Mo_gates_29 : decode prog_1_method_20_code 29 = .ok (.aload_n 0, 1) := by decide +kernel
theorem d_Mo_gates_30 : decode prog_1_method_20_code 30 = .ok (.getfield 10, 3) := by decide +kernel
theorem d_Mo_gates_33 : decode prog_1_method_20_code 33 = .ok (.invokevirtual 172, 3) := by decide +kernel
theorem d_Mo_gates_36 : decode prog_1_method_20_code 36 = .ok (.aload_n 0, 1) := by decide +kernel
theorem d_Mo_gates_37 : decode prog_1_method_20_code 37 = .ok (.getfield 40, 3) := by decide +kernel
theorem d_Mo_gates_40 : decode prog_1_method_20_code 40 = .ok (.iload_n 1, 1) := by decide +kernel
theorem d_Mo_gates_41 : decode prog_1_method_20_code 41 = .ok (.bipush 100, 2) := by decide +kernel
theorem d_Mo_gates_43 : decode prog_1_method_20_code 43 = .ok (.invokevirtual 233, 3) := by decide +kernel
theorem d_Mo_gates_46 : decode prog_1_method_20_code 46 = .ok (.istore_n 3, 1) := by decide +kernel
theorem d_Mo_gates_47 : decode prog_1_method_20_code 47 = .ok (.iload_n 2, 1) := by decide +kernel
theorem d_Mo_gates_48 : decode prog_1_method_20_code 48 = .ok (.ifCond .ge 7, 3) := by decide +kernel
theorem d_Mo_gates_51 : decode prog_1_method_20_code 51 = .ok (.iload_n 3, 1) := by decide +kernel
theorem d_Mo_gates_52 : decode prog_1_method_20_code 52 = .ok (.goto 11, 3) := by decide +kernel
theorem d_Mo_gates_55 : decode prog_1_method_20_code 55 = .ok (.aload_n 0, 1) := by decide +kernel
theorem d_Mo_gates_56 : decode prog_1_method_20_code 56 = .ok (.getfield 40, 3) := by decide +kernel
theorem d_Mo_gates_59 : decode prog_1_method_20_code 59 = .ok (.iload_n 2, 1) := by decide +kernel
theorem d_Mo_gates_60 : decode prog_1_method_20_code 60 = .ok (.invokevirtual 236, 3) := by decide +kernel
theorem d_Mo_gates_63 : decode prog_1_method_20_code 63 = .ok (.ireturn, 1) := by decide +kernel
theorem d_Mo_where_0 : decode prog_1_method_21_code 0 = .ok (.aload_n 0, 1) := by decide +kernel
theorem d_Mo_where_1 : decode prog_1_method_21_code 1 = .ok (.getfield 10, 3) := by decide +kernel
theorem d_Mo_where_4 : decode prog_1_method_21_code 4 = .ok (.iload_n 1, 1) := by decide +kernel
theorem d_Mo_where_5 : decode prog_1_method_21_code 5 = .ok (.invokevirtual 126, 3) := by decide +kernel
theorem d_Mo_where_8 : decode prog_1_method_21_code 8 = .ok (.ifCond .ne 5, 3) := by decide +kernel
theorem d_Mo_where_11 : decode prog_1_method_21_code 11 = .ok (.iconst (-1), 1) := by decide +kernel
theorem d_Mo_where_12 : decode prog_1_method_21_code 12 = .ok (.ireturn, 1) := by decide +kernel
theorem d_Mo_where_13 : decode prog_1_method_21_code 13 = .ok (.aload_n 0, 1) := by decide +kernel
theorem d_Mo_where_14 : decode prog_1_method_21_code 14 = .ok (.getfield 49, 3) := by decide +kernel
theorem d_Mo_where_17 : decode prog_1_method_21_code 17 = .ok (.iload_n 1, 1) := by decide +kernel
theorem d_Mo_where_18 : decode prog_1_method_21_code 18 = .ok (.invokevirtual 237, 3) := by decide +kernel
theorem d_Mo_where_21 : decode prog_1_method_21_code 21 = .ok (.ireturn, 1) := by decide +kernel
theorem d_Mo_bestSet_0 : decode prog_1_method_22_code 0 = .ok (.iload_n 1, 1) := by decide +kernel
theorem d_Mo_bestSet_1 : decode prog_1_method_22_code 1 = .ok (.invokestatic 169, 3) := by decide +kernel
theorem d_Mo_bestSet_4 : decode prog_1_method_22_code 4 = .ok (.ifCond .eq 10, 3) := by decide +kernel
theorem d_Mo_bestSet_7 : decode prog_1_method_22_code 7 = .ok (.iload_n 2, 1) := by decide +kernel
theorem d_Mo_bestSet_8 : decode prog_1_method_22_code 8 = .ok (.invokestatic 178, 3) := by decide +kernel
theorem d_Mo_bestSet_11 : decode prog_1_method_22_code 11 = .ok (.ifCond .ne 5, 3) := by decide +kernel
theorem d_Mo_bestSet_14 : decode prog_1_method_22_code 14 = .ok (.iconst (-1), 1) := by decide +kernel
theorem d_Mo_bestSet_15 : decode prog_1_method_22_code 15 = .ok (.ireturn, 1) := by decide +kernel
theorem d_Mo_bestSet_16 : decode prog_1_method_22_code 16 = .ok (.aload_n 0, 1) := by decide +kernel
theorem d_Mo_bestSet_17 : decode prog_1_method_22_code 17 = .ok (.getfield 10, 3) := by decide +kernel
theorem d_Mo_bestSet_20 : decode prog_1_method_22_code 20 = .ok (.invokevirtual 98, 3) := by decide +kernel
theorem d_Mo_bestSet_23 : decode prog_1_method_22_code 23 = .ok (.bipush 8, 2) := by decide +kernel
theorem d_Mo_bestSet_25 : decode prog_1_method_22_code 25 = .ok (.if_icmp .le 6, 3) := by decide +kernel
theorem d_Mo_bestSet_28 : decode prog_1_method_22_code 28 = .ok (.bipush (-5), 2) := by decide +kernel
theorem d_Mo_bestSet_30 : decode prog_1_method_22_code 30 = .ok (.ireturn, 1) := by decide +kernel
theorem d_Mo_bestSet_31 : decode prog_1_method_22_code 31 = .ok (.aload_n 0, 1) := by decide +kernel
theorem d_Mo_bestSet_32 : decode prog_1_method_22_code 32 = .ok (.getfield 49, 3) := by decide +kernel
theorem d_Mo_bestSet_35 : decode prog_1_method_22_code 35 = .ok (.iload_n 1, 1) := by decide +kernel
theorem d_Mo_bestSet_36 : decode prog_1_method_22_code 36 = .ok (.iload_n 2, 1) := by decide +kernel
theorem d_Mo_bestSet_37 : decode prog_1_method_22_code 37 = .ok (.invokevirtual 240, 3) := by decide +kernel
theorem d_Mo_bestSet_40 : decode prog_1_method_22_code 40 = .ok (.ireturn, 1) := by decide +kernel
theorem d_Mo_atLast_0 : decode prog_1_method_23_code 0 = .ok (.aload_n 0, 1) := by decide +kernel
theorem d_Mo_atLast_1 : decode prog_1_method_23_code 1 = .ok (.getfield 40, 3) := by decide +kernel
theorem d_Mo_atLast_4 : decode prog_1_method_23_code 4 = .ok (.aload_n 0, 1) := by decide +kernel
theorem d_Mo_atLast_5 : decode prog_1_method_23_code 5 = .ok (.getfield 10, 3) := by decide +kernel
theorem d_Mo_atLast_8 : decode prog_1_method_23_code 8 = .ok (.invokevirtual 172, 3) := by decide +kernel
theorem d_Mo_atLast_11 : decode prog_1_method_23_code 11 = .ok (.aload_n 0, 1) := by decide +kernel
theorem d_Mo_atLast_12 : decode prog_1_method_23_code 12 = .ok (.getfield 40, 3) := by decide +kernel
theorem d_Mo_atLast_15 : decode prog_1_method_23_code 15 = .ok (.bipush 100, 2) := by decide +kernel
theorem d_Mo_atLast_17 : decode prog_1_method_23_code 17 = .ok (.iconst 5, 1) := by decide +kernel
theorem d_Mo_atLast_18 : decode prog_1_method_23_code 18 = .ok (.invokevirtual 181, 3) := by decide +kernel
theorem d_Mo_atLast_21 : decode prog_1_method_23_code 21 = .ok (.pop, 1) := by decide +kernel
theorem d_Mo_atLast_22 : decode prog_1_method_23_code 22 = .ok (.aload_n 0, 1) := by decide +kernel
theorem d_Mo_atLast_23 : decode prog_1_method_23_code 23 = .ok (.getfield 40, 3) := by decide +kernel
theorem d_Mo_atLast_26 : decode prog_1_method_23_code 26 = .ok (.invokevirtual 243, 3) := by decide +kernel
theorem d_Mo_atLast_29 : decode prog_1_method_23_code 29 = .ok (.ireturn, 1) := by decide +kernel
theorem d_Mo_rule_0 : decode prog_1_method_24_code 0 = .ok (.iload_n 1, 1) := by decide +kernel
theorem d_Mo_rule_1 : decode prog_1_method_24_code 1 = .ok (.invokestatic 169, 3) := by decide +kernel
theorem d_Mo_rule_4 : decode prog_1_method_24_code 4 = .ok (.ifCond .ne 5, 3) := by decide +kernel
theorem d_Mo_rule_7 : decode prog_1_method_24_code 7 = .ok (.iconst (-1), 1) := by decide +kernel
theorem d_Mo_rule_8 : decode prog_1_method_24_code 8 = .ok (.ireturn, 1) := by decide +kernel
theorem d_Mo_rule_9 : decode prog_1_method_24_code 9 = .ok (.aload_n 0, 1) := by decide +kernel
theorem d_Mo_rule_10 : decode prog_1_method_24_code 10 = .ok (.getfield 49, 3) := by decide +kernel
theorem d_Mo_rule_13 : decode prog_1_method_24_code 13 = .ok (.iload_n 1, 1) := by decide +kernel
theorem d_Mo_rule_14 : decode prog_1_method_24_code 14 = .ok (.invokevirtual 246, 3) := by decide +kernel
theorem d_Mo_rule_17 : decode prog_1_method_24_code 17 = .ok (.ireturn, 1) := by decide +kernel
theorem d_Mo_judge_0 : decode prog_1_method_25_code 0 = .ok (.aload_n 0, 1) := by decide +kernel
theorem d_Mo_judge_1 : decode prog_1_method_25_code 1 = .ok (.iload_n 1, 1) := by decide +kernel
theorem d_Mo_judge_2 : decode prog_1_method_25_code 2 = .ok (.invokevirtual 249, 3) := by decide +kernel
theorem d_Mo_judge_5 : decode prog_1_method_25_code 5 = .ok (.istore_n 2, 1) := by decide +kernel
theorem d_Mo_judge_6 : decode prog_1_method_25_code 6 = .ok (.iload_n 2, 1) := by decide +kernel
theorem d_Mo_judge_7 : decode prog_1_method_25_code 7 = .ok (.ifCond .eq 5, 3) := by decide +kernel
theorem d_Mo_judge_10 : decode prog_1_method_25_code 10 = .ok (.iload_n 2, 1) := by decide +kernel
theorem d_Mo_judge_11 : decode prog_1_method_25_code 11 = .ok (.ireturn, 1) := by decide +kernel
theorem d_Mo_judge_12 : decode prog_1_method_25_code 12 = .ok (.aload_n 0, 1) := by decide +kernel
theorem d_Mo_judge_13 : decode prog_1_method_25_code 13 = .ok (.getfield 65, 3) := by decide +kernel
theorem d_Mo_judge_16 : decode prog_1_method_25_code 16 = .ok (.iload_n 1, 1) := by decide +kernel
theorem d_Mo_judge_17 : decode prog_1_method_25_code 17 = .ok (.invokevirtual 252, 3) := by decide +kernel
theorem d_Mo_judge_20 : decode prog_1_method_25_code 20 = .ok (.ireturn, 1) := by decide +kernel
theorem d_Mo_with_0 : decode prog_1_method_26_code 0 = .ok (.iload_n 2, 1) := by decide +kernel
theorem d_Mo_with_1 : decode prog_1_method_26_code 1 = .ok (.invokestatic 178, 3) := by decide +kernel
theorem d_Mo_with_4 : decode prog_1_method_26_code 4 = .ok (.ifCond .ne 5, 3) := by decide +kernel
theorem d_Mo_with_7 : decode prog_1_method_26_code 7 = .ok (.iconst (-1), 1) := by decide +kernel
theorem d_Mo_with_8 : decode prog_1_method_26_code 8 = .ok (.ireturn, 1) := by decide +kernel
theorem d_Mo_with_9 : decode prog_1_method_26_code 9 = .ok (.aload_n 0, 1) := by decide +kernel
theorem d_Mo_with_10 : decode prog_1_method_26_code 10 = .ok (.iload_n 1, 1) := by decide +kernel
theorem d_Mo_with_11 : decode prog_1_method_26_code 11 = .ok (.invokevirtual 249, 3) := by decide +kernel
theorem d_Mo_with_14 : decode prog_1_method_26_code 14 = .ok (.istore_n 3, 1) := by decide +kernel
theorem d_Mo_with_15 : decode prog_1_method_26_code 15 = .ok (.iload_n 3, 1) := by decide +kernel
theorem d_Mo_with_16 : decode prog_1_method_26_code 16 = .ok (.ifCond .eq 5, 3) := by decide +kernel
theorem d_Mo_with_19 : decode prog_1_method_26_code 19 = .ok (.iload_n 3, 1) := by decide +kernel
theorem d_Mo_with_20 : decode prog_1_method_26_code 20 = .ok (.ireturn, 1) := by decide +kernel
theorem d_Mo_with_21 : decode prog_1_method_26_code 21 = .ok (.aload_n 0, 1) := by decide +kernel
theorem d_Mo_with_22 : decode prog_1_method_26_code 22 = .ok (.getfield 10, 3) := by decide +kernel
theorem d_Mo_with_25 : decode prog_1_method_26_code 25 = .ok (.invokevirtual 98, 3) := by decide +kernel
theorem d_Mo_with_28 : decode prog_1_method_26_code 28 = .ok (.bipush 8, 2) := by decide +kernel
theorem d_Mo_with_30 : decode prog_1_method_26_code 30 = .ok (.if_icmp .le 6, 3) := by decide +kernel
theorem d_Mo_with_33 : decode prog_1_method_26_code 33 = .ok (.bipush (-5), 2) := by decide +kernel
theorem d_Mo_with_35 : decode prog_1_method_26_code 35 = .ok (.ireturn, 1) := by decide +kernel
theorem d_Mo_with_36 : decode prog_1_method_26_code 36 = .ok (.aload_n 0, 1) := by decide +kernel
theorem d_Mo_with_37 : decode prog_1_method_26_code 37 = .ok (.getfield 65, 3) := by decide +kernel
theorem d_Mo_with_40 : decode prog_1_method_26_code 40 = .ok (.iload_n 1, 1) := by decide +kernel
theorem d_Mo_with_41 : decode prog_1_method_26_code 41 = .ok (.iload_n 2, 1) := by decide +kernel
theorem d_Mo_with_42 : decode prog_1_method_26_code 42 = .ok (.invokevirtual 255, 3) := by decide +kernel
theorem d_Mo_with_45 : decode prog_1_method_26_code 45 = .ok (.ireturn, 1) := by decide +kernel
theorem d_Mo_heeled_0 : decode prog_1_method_27_code 0 = .ok (.aload_n 0, 1) := by decide +kernel
theorem d_Mo_heeled_1 : decode prog_1_method_27_code 1 = .ok (.iload_n 1, 1) := by decide +kernel
theorem d_Mo_heeled_2 : decode prog_1_method_27_code 2 = .ok (.invokevirtual 249, 3) := by decide +kernel
theorem d_Mo_heeled_5 : decode prog_1_method_27_code 5 = .ok (.istore_n 2, 1) := by decide +kernel
theorem d_Mo_heeled_6 : decode prog_1_method_27_code 6 = .ok (.iload_n 2, 1) := by decide +kernel
theorem d_Mo_heeled_7 : decode prog_1_method_27_code 7 = .ok (.ifCond .eq 5, 3) := by decide +kernel
theorem d_Mo_heeled_10 : decode prog_1_method_27_code 10 = .ok (.iload_n 2, 1) := by decide +kernel
theorem d_Mo_heeled_11 : decode prog_1_method_27_code 11 = .ok (.ireturn, 1) := by decide +kernel
theorem d_Mo_heeled_12 : decode prog_1_method_27_code 12 = .ok (.aload_n 0, 1) := by decide +kernel
theorem d_Mo_heeled_13 : decode prog_1_method_27_code 13 = .ok (.getfield 10, 3) := by decide +kernel
theorem d_Mo_heeled_16 : decode prog_1_method_27_code 16 = .ok (.invokevirtual 98, 3) := by decide +kernel
theorem d_Mo_heeled_19 : decode prog_1_method_27_code 19 = .ok (.bipush 8, 2) := by decide +kernel
theorem d_Mo_heeled_21 : decode prog_1_method_27_code 21 = .ok (.if_icmp .le 6, 3) := by decide +kernel
theorem d_Mo_heeled_24 : decode prog_1_method_27_code 24 = .ok (.bipush (-5), 2) := by decide +kernel
theorem d_Mo_heeled_26 : decode prog_1_method_27_code 26 = .ok (.ireturn, 1) := by decide +kernel
theorem d_Mo_heeled_27 : decode prog_1_method_27_code 27 = .ok (.aload_n 0, 1) := by decide +kernel
theorem d_Mo_heeled_28 : decode prog_1_method_27_code 28 = .ok (.getfield 65, 3) := by decide +kernel
theorem d_Mo_heeled_31 : decode prog_1_method_27_code 31 = .ok (.iload_n 1, 1) := by decide +kernel
theorem d_Mo_heeled_32 : decode prog_1_method_27_code 32 = .ok (.invokevirtual 258, 3) := by decide +kernel
theorem d_Mo_heeled_35 : decode prog_1_method_27_code 35 = .ok (.ireturn, 1) := by decide +kernel
theorem d_Mo_drawn_0 : decode prog_1_method_28_code 0 = .ok (.iload_n 2, 1) := by decide +kernel
theorem d_Mo_drawn_1 : decode prog_1_method_28_code 1 = .ok (.iconst 1, 1) := by decide +kernel
theorem d_Mo_drawn_2 : decode prog_1_method_28_code 2 = .ok (.if_icmp .lt 17, 3) := by decide +kernel
theorem d_Mo_drawn_5 : decode prog_1_method_28_code 5 = .ok (.iload_n 2, 1) := by decide +kernel
theorem d_Mo_drawn_6 : decode prog_1_method_28_code 6 = .ok (.bipush 20, 2) := by decide +kernel
theorem d_Mo_drawn_8 : decode prog_1_method_28_code 8 = .ok (.if_icmp .gt 11, 3) := by decide +kernel
theorem d_Mo_drawn_11 : decode prog_1_method_28_code 11 = .ok (.aload_n 0, 1) := by decide +kernel
theorem d_Mo_drawn_12 : decode prog_1_method_28_code 12 = .ok (.iload_n 3, 1) := by decide +kernel
theorem d_Mo_drawn_13 : decode prog_1_method_28_code 13 = .ok (.invokevirtual 224, 3) := by decide +kernel
theorem d_Mo_drawn_16 : decode prog_1_method_28_code 16 = .ok (.ifCond .ne 5, 3) := by decide +kernel
theorem d_Mo_drawn_19 : decode prog_1_method_28_code 19 = .ok (.iconst (-1), 1) := by decide +kernel
theorem d_Mo_drawn_20 : decode prog_1_method_28_code 20 = .ok (.ireturn, 1) := by decide +kernel
theorem d_Mo_drawn_21 : decode prog_1_method_28_code 21 = .ok (.aload_n 0, 1) := by decide +kernel
theorem d_Mo_drawn_22 : decode prog_1_method_28_code 22 = .ok (.getfield 65, 3) := by decide +kernel
theorem d_Mo_drawn_25 : decode prog_1_method_28_code 25 = .ok (.iload_n 1, 1) := by decide +kernel
theorem d_Mo_drawn_26 : decode prog_1_method_28_code 26 = .ok (.iload_n 2, 1) := by decide +kernel
theorem d_Mo_drawn_27 : decode prog_1_method_28_code 27 = .ok (.iload_n 3, 1) := by decide +kernel
theorem d_Mo_drawn_28 : decode prog_1_method_28_code 28 = .ok (.invokevirtual 261, 3) := by decide +kernel
theorem d_Mo_drawn_31 : decode prog_1_method_28_code 31 = .ok (.ireturn, 1) := by decide +kernel
theorem d_Mo_refusedAsSeen_0 : decode prog_1_method_29_code 0 = .ok (.iload_n 1, 1) := by decide +kernel
theorem d_Mo_refusedAsSeen_1 : decode prog_1_method_29_code 1 = .ok (.invokestatic 106, 3) := by decide +kernel
theorem d_Mo_refusedAsSeen_4 : decode prog_1_method_29_code 4 = .ok (.ifCond .ne 5, 3) := by decide +kernel
theorem d_Mo_refusedAsSeen_7 : decode prog_1_method_29_code 7 = .ok (.iconst (-1), 1) := by decide +kernel
theorem d_Mo_refusedAsSeen_8 : decode prog_1_method_29_code 8 = .ok (.ireturn, 1) := by decide +kernel
theorem d_Mo_refusedAsSeen_9 : decode prog_1_method_29_code 9 = .ok (.aload_n 0, 1) := by decide +kernel
theorem d_Mo_refusedAsSeen_10 : decode prog_1_method_29_code 10 = .ok (.getfield 56, 3) := by decide +kernel
theorem d_Mo_refusedAsSeen_13 : decode prog_1_method_29_code 13 = .ok (.iload_n 1, 1) := by decide +kernel
theorem d_Mo_refusedAsSeen_14 : decode prog_1_method_29_code 14 = .ok (.invokevirtual 110, 3) := by decide +kernel
theorem d_Mo_refusedAsSeen_17 : decode prog_1_method_29_code 17 = .ok (.ifCond .eq 6, 3) := by decide +kernel
theorem d_Mo_refusedAsSeen_20 : decode prog_1_method_29_code 20 = .ok (.bipush (-11), 2) := by decide +kernel
theorem d_Mo_refusedAsSeen_22 : decode prog_1_method_29_code 22 = .ok (.ireturn, 1) := by decide +kernel
theorem d_Mo_refusedAsSeen_23 : decode prog_1_method_29_code 23 = .ok (.aload_n 0, 1) := by decide +kernel
theorem d_Mo_refusedAsSeen_24 : decode prog_1_method_29_code 24 = .ok (.getfield 56, 3) := by decide +kernel
theorem d_Mo_refusedAsSeen_27 : decode prog_1_method_29_code 27 = .ok (.iload_n 1, 1) := by decide +kernel
theorem d_Mo_refusedAsSeen_28 : decode prog_1_method_29_code 28 = .ok (.iconst 0, 1) := by decide +kernel
theorem d_Mo_refusedAsSeen_29 : decode prog_1_method_29_code 29 = .ok (.invokevirtual 113, 3) := by decide +kernel
theorem d_Mo_refusedAsSeen_32 : decode prog_1_method_29_code 32 = .ok (.ifCond .eq 7, 3) := by decide +kernel
theorem d_Mo_refusedAsSeen_35 : decode prog_1_method_29_code 35 = .ok (.iconst 0, 1) := by decide +kernel
theorem d_Mo_refusedAsSeen_36 : decode prog_1_method_29_code 36 = .ok (.goto 5, 3) := by decide +kernel
theorem d_Mo_refusedAsSeen_39 : decode prog_1_method_29_code 39 = .ok (.bipush (-12), 2) := by decide +kernel
theorem d_Mo_refusedAsSeen_41 : decode prog_1_method_29_code 41 = .ok (.ireturn, 1) := by decide +kernel
theorem d_Mo_strike_0 : decode prog_1_method_30_code 0 = .ok (.aload_n 0, 1) := by decide +kernel
theorem d_Mo_strike_1 : decode prog_1_method_30_code 1 = .ok (.getfield 74, 3) := by decide +kernel
theorem d_Mo_strike_4 : decode prog_1_method_30_code 4 = .ok (.iconst 5, 1) := by decide +kernel
theorem d_Mo_strike_5 : decode prog_1_method_30_code 5 = .ok (.invokevirtual 264, 3) := by decide +kernel
theorem d_Mo_strike_8 : decode prog_1_method_30_code 8 = .ok (.sipush 999, 3) := by decide +kernel
theorem d_Mo_strike_11 : decode prog_1_method_30_code 11 = .ok (.if_icmp .lt 6, 3) := by decide +kernel
theorem d_Mo_strike_14 : decode prog_1_method_30_code 14 = .ok (.bipush (-5), 2) := by decide +kernel
theorem d_Mo_strike_16 : decode prog_1_method_30_code 16 = .ok (.ireturn, 1) := by decide +kernel
theorem d_Mo_strike_17 : decode prog_1_method_30_code 17 = .ok (.aload_n 0, 1) := by decide +kernel
theorem d_Mo_strike_18 : decode prog_1_method_30_code 18 = .ok (.getfield 74, 3) := by decide +kernel
theorem d_Mo_strike_21 : decode prog_1_method_30_code 21 = .ok (.invokevirtual 267, 3) := by decide +kernel
theorem d_Mo_strike_24 : decode prog_1_method_30_code 24 = .ok (.istore_n 1, 1) := by decide +kernel
theorem d_Mo_strike_25 : decode prog_1_method_30_code 25 = .ok (.iload_n 1, 1) := by decide +kernel
theorem d_Mo_strike_26 : decode prog_1_method_30_code 26 = .ok (.iconst (-1), 1) := by decide +kernel
theorem d_Mo_strike_27 : decode prog_1_method_30_code 27 = .ok (.if_icmp .ne 8, 3) := by decide +kernel
theorem d_Mo_strike_30 : decode prog_1_method_30_code 30 = .ok (.bipush (-2), 2) := by decide +kernel
theorem d_Mo_strike_32 : decode prog_1_method_30_code 32 = .ok (.goto 4, 3) := by decide +kernel
theorem d_Mo_strike_35 : decode prog_1_method_30_code 35 = .ok (.iload_n 1, 1) := by decide +kernel
theorem d_Mo_strike_36 : decode prog_1_method_30_code 36 = .ok (.ireturn, 1) := by decide +kernel
theorem d_Mo_take_0 : decode prog_1_method_31_code 0 = .ok (.aload_n 0, 1) := by decide +kernel
theorem d_Mo_take_1 : decode prog_1_method_31_code 1 = .ok (.getfield 10, 3) := by decide +kernel
theorem d_Mo_take_4 : decode prog_1_method_31_code 4 = .ok (.iload_n 1, 1) := by decide +kernel
theorem d_Mo_take_5 : decode prog_1_method_31_code 5 = .ok (.invokevirtual 126, 3) := by decide +kernel
theorem d_Mo_take_8 : decode prog_1_method_31_code 8 = .ok (.ifCond .ne 5, 3) := by decide +kernel
theorem d_Mo_take_11 : decode prog_1_method_31_code 11 = .ok (.iconst (-1), 1) := by decide +kernel
theorem d_Mo_take_12 : decode prog_1_method_31_code 12 = .ok (.ireturn, 1) := by decide +kernel
theorem d_Mo_take_13 : decode prog_1_method_31_code 13 = .ok (.aload_n 0, 1) := by decide +kernel
theorem d_Mo_take_14 : decode prog_1_method_31_code 14 = .ok (.getfield 74, 3) := by decide +kernel
theorem d_Mo_take_17 : decode prog_1_method_31_code 17 = .ok (.invokevirtual 140, 3) := by decide +kernel
theorem d_Mo_take_20 : decode prog_1_method_31_code 20 = .ok (.iload_n 1, 1) := by decide +kernel
theorem d_Mo_take_21 : decode prog_1_method_31_code 21 = .ok (.ishr, 1) := by decide +kernel
theorem d_Mo_take_22 : decode prog_1_method_31_code 22 = .ok (.iconst 1, 1) := by decide +kernel
theorem d_Mo_take_23 : decode prog_1_method_31_code 23 = .ok (.iand, 1) := by decide +kernel
theorem d_Mo_take_24 : decode prog_1_method_31_code 24 = .ok (.ifCond .ne 6, 3) := by decide +kernel
theorem d_Mo_take_27 : decode prog_1_method_31_code 27 = .ok (.bipush (-5), 2) := by decide +kernel
theorem d_Mo_take_29 : decode prog_1_method_31_code 29 = .ok (.ireturn, 1) := by decide +kernel
theorem d_Mo_take_30 : decode prog_1_method_31_code 30 = .ok (.aload_n 0, 1) := by decide +kernel
theorem d_Mo_take_31 : decode prog_1_method_31_code 31 = .ok (.getfield 74, 3) := by decide +kernel
theorem d_Mo_take_34 : decode prog_1_method_31_code 34 = .ok (.iload_n 1, 1) := by decide +kernel
theorem d_Mo_take_35 : decode prog_1_method_31_code 35 = .ok (.invokevirtual 270, 3) := by decide +kernel
theorem d_Mo_take_38 : decode prog_1_method_31_code 38 = .ok (.ireturn, 1) := by decide +kernel
theorem d_Mo_dawn_0 : decode prog_1_method_32_code 0 = .ok (.aload_n 0, 1) := by decide +kernel
theorem d_Mo_dawn_1 : decode prog_1_method_32_code 1 = .ok (.getfield 74, 3) := by decide +kernel
theorem d_Mo_dawn_4 : decode prog_1_method_32_code 4 = .ok (.invokevirtual 273, 3) := by decide +kernel
theorem d_Mo_dawn_7 : decode prog_1_method_32_code 7 = .ok (.ireturn, 1) := by decide +kernel
theorem d_Mo_led_0 : decode prog_1_method_33_code 0 = .ok (.iload_n 1, 1) := by decide +kernel
theorem d_Mo_led_1 : decode prog_1_method_33_code 1 = .ok (.ifCond .lt 8, 3) := by decide +kernel
theorem d_Mo_led_4 : decode prog_1_method_33_code 4 = .ok (.iload_n 1, 1) := by decide +kernel
theorem d_Mo_led_5 : decode prog_1_method_33_code 5 = .ok (.iconst 5, 1) := by decide +kernel
theorem d_Mo_led_6 : decode prog_1_method_33_code 6 = .ok (.if_icmp .le 5, 3) := by decide +kernel
theorem d_Mo_led_9 : decode prog_1_method_33_code 9 = .ok (.iconst (-1), 1) := by decide +kernel
theorem d_Mo_led_10 : decode prog_1_method_33_code 10 = .ok (.ireturn, 1) := by decide +kernel
theorem d_Mo_led_11 : decode prog_1_method_33_code 11 = .ok (.aload_n 0, 1) := by decide +kernel
theorem d_Mo_led_12 : decode prog_1_method_33_code 12 = .ok (.getfield 74, 3) := by decide +kernel
theorem d_Mo_led_15 : decode prog_1_method_33_code 15 = .ok (.iload_n 1, 1) := by decide +kernel
theorem d_Mo_led_16 : decode prog_1_method_33_code 16 = .ok (.invokevirtual 264, 3) := by decide +kernel
theorem d_Mo_led_19 : decode prog_1_method_33_code 19 = .ok (.ireturn, 1) := by decide +kernel
theorem d_Mo_image_0 : decode prog_1_method_34_code 0 = .ok (.aload_n 0, 1) := by decide +kernel
theorem d_Mo_image_1 : decode prog_1_method_34_code 1 = .ok (.getfield 74, 3) := by decide +kernel
theorem d_Mo_image_4 : decode prog_1_method_34_code 4 = .ok (.invokevirtual 276, 3) := by decide +kernel
theorem d_Mo_image_7 : decode prog_1_method_34_code 7 = .ok (.ireturn, 1) := by decide +kernel
theorem d_Mo_back_0 : decode prog_1_method_35_code 0 = .ok (.aload_n 0, 1) := by decide +kernel
theorem d_Mo_back_1 : decode prog_1_method_35_code 1 = .ok (.getfield 74, 3) := by decide +kernel
theorem d_Mo_back_4 : decode prog_1_method_35_code 4 = .ok (.invokevirtual 279, 3) := by decide +kernel
theorem d_Mo_back_7 : decode prog_1_method_35_code 7 = .ok (.ifCond .ne 6, 3) := by decide +kernel
theorem d_Mo_back_10 : decode prog_1_method_35_code 10 = .ok (.bipush (-5), 2) := by decide +kernel
theorem d_Mo_back_12 : decode prog_1_method_35_code 12 = .ok (.ireturn, 1) := by decide +kernel
theorem d_Mo_back_13 : decode prog_1_method_35_code 13 = .ok (.aload_n 0, 1) := by decide +kernel
theorem d_Mo_back_14 : decode prog_1_method_35_code 14 = .ok (.getfield 74, 3) := by decide +kernel
theorem d_Mo_back_17 : decode prog_1_method_35_code 17 = .ok (.invokevirtual 282, 3) := by decide +kernel
theorem d_Mo_back_20 : decode prog_1_method_35_code 20 = .ok (.ireturn, 1) := by decide +kernel
theorem d_Mo_undo_0 : decode prog_1_method_36_code 0 = .ok (.aload_n 0, 1) := by decide +kernel
theorem d_Mo_undo_1 : decode prog_1_method_36_code 1 = .ok (.getfield 83, 3) := by decide +kernel
theorem d_Mo_undo_4 : decode prog_1_method_36_code 4 = .ok (.invokevirtual 285, 3) := by decide +kernel
theorem d_Mo_undo_7 : decode prog_1_method_36_code 7 = .ok (.ifCond .ne 6, 3) := by decide +kernel
theorem d_Mo_undo_10 : decode prog_1_method_36_code 10 = .ok (.bipush (-5), 2) := by decide +kernel
theorem d_Mo_undo_12 : decode prog_1_method_36_code 12 = .ok (.ireturn, 1) := by decide +kernel
theorem d_Mo_undo_13 : decode prog_1_method_36_code 13 = .ok (.aload_n 0, 1) := by decide +kernel
theorem d_Mo_undo_14 : decode prog_1_method_36_code 14 = .ok (.getfield 83, 3) := by decide +kernel
theorem d_Mo_undo_17 : decode prog_1_method_36_code 17 = .ok (.invokevirtual 288, 3) := by decide +kernel
theorem d_Mo_undo_20 : decode prog_1_method_36_code 20 = .ok (.ireturn, 1) := by decide +kernel
theorem d_Mo_redo_0 : decode prog_1_method_37_code 0 = .ok (.aload_n 0, 1) := by decide +kernel
theorem d_Mo_redo_1 : decode prog_1_method_37_code 1 = .ok (.getfield 83, 3) := by decide +kernel
theorem d_Mo_redo_4 : decode prog_1_method_37_code 4 = .ok (.invokevirtual 291, 3) := by decide +kernel
theorem d_Mo_redo_7 : decode prog_1_method_37_code 7 = .ok (.ifCond .ne 6, 3) := by decide +kernel
theorem d_Mo_redo_10 : decode prog_1_method_37_code 10 = .ok (.bipush (-5), 2) := by decide +kernel
theorem d_Mo_redo_12 : decode prog_1_method_37_code 12 = .ok (.ireturn, 1) := by decide +kernel
theorem d_Mo_redo_13 : decode prog_1_method_37_code 13 = .ok (.aload_n 0, 1) := by decide +kernel
theorem d_Mo_redo_14 : decode prog_1_method_37_code 14 = .ok (.getfield 83, 3) := by decide +kernel
theorem d_Mo_redo_17 : decode prog_1_method_37_code 17 = .ok (.invokevirtual 294, 3) := by decide +kernel
theorem d_Mo_redo_20 : decode prog_1_method_37_code 20 = .ok (.ireturn, 1) := by decide +kernel
theorem d_Mo_body_0 : decode prog_1_method_38_code 0 = .ok (.iload_n 1, 1) := by decide +kernel
theorem d_Mo_body_1 : decode prog_1_method_38_code 1 = .ok (.invokestatic 297, 3) := by decide +kernel
theorem d_Mo_body_4 : decode prog_1_method_38_code 4 = .ok (.ifCond .ne 5, 3) := by decide +kernel
theorem d_Mo_body_7 : decode prog_1_method_38_code 7 = .ok (.iconst (-1), 1) := by decide +kernel
theorem d_Mo_body_8 : decode prog_1_method_38_code 8 = .ok (.ireturn, 1) := by decide +kernel
theorem d_Mo_body_9 : decode prog_1_method_38_code 9 = .ok (.aload_n 0, 1) := by decide +kernel
theorem d_Mo_body_10 : decode prog_1_method_38_code 10 = .ok (.getfield 90, 3) := by decide +kernel
theorem d_Mo_body_13 : decode prog_1_method_38_code 13 = .ok (.invokevirtual 300, 3) := by decide +kernel
theorem d_Mo_body_16 : decode prog_1_method_38_code 16 = .ok (.bipush 50, 2) := by decide +kernel
theorem d_Mo_body_18 : decode prog_1_method_38_code 18 = .ok (.if_icmp .lt 6, 3) := by decide +kernel
theorem d_Mo_body_21 : decode prog_1_method_38_code 21 = .ok (.bipush (-3), 2) := by decide +kernel
theorem d_Mo_body_23 : decode prog_1_method_38_code 23 = .ok (.ireturn, 1) := by decide +kernel
theorem d_Mo_body_24 : decode prog_1_method_38_code 24 = .ok (.aload_n 0, 1) := by decide +kernel
theorem d_Mo_body_25 : decode prog_1_method_38_code 25 = .ok (.getfield 90, 3) := by decide +kernel
theorem d_Mo_body_28 : decode prog_1_method_38_code 28 = .ok (.iload_n 1, 1) := by decide +kernel
theorem d_Mo_body_29 : decode prog_1_method_38_code 29 = .ok (.invokevirtual 301, 3) := by decide +kernel
theorem d_Mo_body_32 : decode prog_1_method_38_code 32 = .ok (.ireturn, 1) := by decide +kernel
theorem d_Mo_act_0 : decode prog_1_method_39_code 0 = .ok (.aload_n 0, 1) := by decide +kernel
theorem d_Mo_act_1 : decode prog_1_method_39_code 1 = .ok (.getfield 90, 3) := by decide +kernel
theorem d_Mo_act_4 : decode prog_1_method_39_code 4 = .ok (.iload_n 1, 1) := by decide +kernel
theorem d_Mo_act_5 : decode prog_1_method_39_code 5 = .ok (.iload_n 2, 1) := by decide +kernel
theorem d_Mo_act_6 : decode prog_1_method_39_code 6 = .ok (.iload_n 3, 1) := by decide +kernel
theorem d_Mo_act_7 : decode prog_1_method_39_code 7 = .ok (.invokevirtual 303, 3) := by decide +kernel
theorem d_Mo_act_10 : decode prog_1_method_39_code 10 = .ok (.ireturn, 1) := by decide +kernel
theorem d_Mo_trace_0 : decode prog_1_method_40_code 0 = .ok (.aload_n 0, 1) := by decide +kernel
theorem d_Mo_trace_1 : decode prog_1_method_40_code 1 = .ok (.getfield 90, 3) := by decide +kernel
theorem d_Mo_trace_4 : decode prog_1_method_40_code 4 = .ok (.iload_n 1, 1) := by decide +kernel
theorem d_Mo_trace_5 : decode prog_1_method_40_code 5 = .ok (.invokevirtual 306, 3) := by decide +kernel
theorem d_Mo_trace_8 : decode prog_1_method_40_code 8 = .ok (.ireturn, 1) := by decide +kernel
theorem d_Mo_keep_0 : decode prog_1_method_41_code 0 = .ok (.iload_n 1, 1) := by decide +kernel
theorem d_Mo_keep_1 : decode prog_1_method_41_code 1 = .ok (.invokestatic 106, 3) := by decide +kernel
theorem d_Mo_keep_4 : decode prog_1_method_41_code 4 = .ok (.ifCond .eq 19, 3) := by decide +kernel
theorem d_Mo_keep_7 : decode prog_1_method_41_code 7 = .ok (.iload_n 2, 1) := by decide +kernel
theorem d_Mo_keep_8 : decode prog_1_method_41_code 8 = .ok (.iconst (-1), 1) := by decide +kernel
theorem d_Mo_keep_9 : decode prog_1_method_41_code 9 = .ok (.if_icmp .eq 16, 3) := by decide +kernel
theorem d_Mo_keep_12 : decode prog_1_method_41_code 12 = .ok (.aload_n 0, 1) := by decide +kernel
theorem d_Mo_keep_13 : decode prog_1_method_41_code 13 = .ok (.getfield 90, 3) := by decide +kernel
theorem d_Mo_keep_16 : decode prog_1_method_41_code 16 = .ok (.iload_n 2, 1) := by decide +kernel
theorem d_Mo_keep_17 : decode prog_1_method_41_code 17 = .ok (.invokevirtual 309, 3) := by decide +kernel
theorem d_Mo_keep_20 : decode prog_1_method_41_code 20 = .ok (.ifCond .ne 5, 3) := by decide +kernel
theorem d_Mo_keep_23 : decode prog_1_method_41_code 23 = .ok (.iconst (-1), 1) := by decide +kernel
theorem d_Mo_keep_24 : decode prog_1_method_41_code 24 = .ok (.ireturn, 1) := by decide +kernel
theorem d_Mo_keep_25 : decode prog_1_method_41_code 25 = .ok (.aload_n 0, 1) := by decide +kernel
theorem d_Mo_keep_26 : decode prog_1_method_41_code 26 = .ok (.getfield 56, 3) := by decide +kernel
theorem d_Mo_keep_29 : decode prog_1_method_41_code 29 = .ok (.iload_n 1, 1) := by decide +kernel
theorem d_Mo_keep_30 : decode prog_1_method_41_code 30 = .ok (.iload_n 2, 1) := by decide +kernel
theorem d_Mo_keep_31 : decode prog_1_method_41_code 31 = .ok (.invokevirtual 310, 3) := by decide +kernel
theorem d_Mo_keep_34 : decode prog_1_method_41_code 34 = .ok (.iconst 1, 1) := by decide +kernel
theorem d_Mo_keep_35 : decode prog_1_method_41_code 35 = .ok (.ireturn, 1) := by decide +kernel
theorem d_Mo_row_0 : decode prog_1_method_42_code 0 = .ok (.iload_n 1, 1) := by decide +kernel
theorem d_Mo_row_1 : decode prog_1_method_42_code 1 = .ok (.invokestatic 106, 3) := by decide +kernel
theorem d_Mo_row_4 : decode prog_1_method_42_code 4 = .ok (.ifCond .eq 18, 3) := by decide +kernel
theorem d_Mo_row_7 : decode prog_1_method_42_code 7 = .ok (.iload_n 2, 1) := by decide +kernel
theorem d_Mo_row_8 : decode prog_1_method_42_code 8 = .ok (.ifCond .lt 14, 3) := by decide +kernel
theorem d_Mo_row_11 : decode prog_1_method_42_code 11 = .ok (.iload_n 2, 1) := by decide +kernel
theorem d_Mo_row_12 : decode prog_1_method_42_code 12 = .ok (.iconst 4, 1) := by decide +kernel
theorem d_Mo_row_13 : decode prog_1_method_42_code 13 = .ok (.if_icmp .gt 9, 3) := by decide +kernel
theorem d_Mo_row_16 : decode prog_1_method_42_code 16 = .ok (.iload_n 3, 1) := by decide +kernel
theorem d_Mo_row_17 : decode prog_1_method_42_code 17 = .ok (.bipush 60, 2) := by decide +kernel
theorem d_Mo_row_19 : decode prog_1_method_42_code 19 = .ok (.if_icmp .le 5, 3) := by decide +kernel
theorem d_Mo_row_22 : decode prog_1_method_42_code 22 = .ok (.iconst (-1), 1) := by decide +kernel
theorem d_Mo_row_23 : decode prog_1_method_42_code 23 = .ok (.ireturn, 1) := by decide +kernel
theorem d_Mo_row_24 : decode prog_1_method_42_code 24 = .ok (.iload_n 3, 1) := by decide +kernel
theorem d_Mo_row_25 : decode prog_1_method_42_code 25 = .ok (.ifCond .ge 6, 3) := by decide +kernel
theorem d_Mo_row_28 : decode prog_1_method_42_code 28 = .ok (.bipush (-14), 2) := by decide +kernel
theorem d_Mo_row_30 : decode prog_1_method_42_code 30 = .ok (.ireturn, 1) := by decide +kernel
theorem d_Mo_row_31 : decode prog_1_method_42_code 31 = .ok (.aload_n 0, 1) := by decide +kernel
theorem d_Mo_row_32 : decode prog_1_method_42_code 32 = .ok (.getfield 56, 3) := by decide +kernel
theorem d_Mo_row_35 : decode prog_1_method_42_code 35 = .ok (.iload_n 1, 1) := by decide +kernel
theorem d_Mo_row_36 : decode prog_1_method_42_code 36 = .ok (.iload_n 2, 1) := by decide +kernel
theorem d_Mo_row_37 : decode prog_1_method_42_code 37 = .ok (.iload_n 3, 1) := by decide +kernel
theorem d_Mo_row_38 : decode prog_1_method_42_code 38 = .ok (.invokevirtual 314, 3) := by decide +kernel
theorem d_Mo_row_41 : decode prog_1_method_42_code 41 = .ok (.iconst 1, 1) := by decide +kernel
theorem d_Mo_row_42 : decode prog_1_method_42_code 42 = .ok (.ireturn, 1) := by decide +kernel
theorem d_Mo_put_0 : decode prog_1_method_43_code 0 = .ok (.aload_n 0, 1) := by decide +kernel
theorem d_Mo_put_1 : decode prog_1_method_43_code 1 = .ok (.iload_n 1, 1) := by decide +kernel
theorem d_Mo_put_2 : decode prog_1_method_43_code 2 = .ok (.invokevirtual 317, 3) := by decide +kernel
theorem d_Mo_put_5 : decode prog_1_method_43_code 5 = .ok (.istore 5, 2) := by decide +kernel
theorem d_Mo_put_7 : decode prog_1_method_43_code 7 = .ok (.iload 5, 2) := by decide +kernel
theorem d_Mo_put_9 : decode prog_1_method_43_code 9 = .ok (.ifCond .eq 6, 3) := by decide +kernel
theorem d_Mo_put_12 : decode prog_1_method_43_code 12 = .ok (.iload 5, 2) := by decide +kernel
theorem d_Mo_put_14 : decode prog_1_method_43_code 14 = .ok (.ireturn, 1) := by decide +kernel
theorem d_Mo_put_15 : decode prog_1_method_43_code 15 = .ok (.aload_n 0, 1) := by decide +kernel
theorem d_Mo_put_16 : decode prog_1_method_43_code 16 = .ok (.getfield 56, 3) := by decide +kernel
theorem d_Mo_put_19 : decode prog_1_method_43_code 19 = .ok (.iload_n 1, 1) := by decide +kernel
theorem d_Mo_put_20 : decode prog_1_method_43_code 20 = .ok (.iload_n 2, 1) := by decide +kernel
theorem d_Mo_put_21 : decode prog_1_method_43_code 21 = .ok (.invokevirtual 119, 3) := by decide +kernel
theorem d_Mo_put_24 : decode prog_1_method_43_code 24 = .ok (.ifCond .ne 6, 3) := by decide +kernel
theorem d_Mo_put_27 : decode prog_1_method_43_code 27 = .ok (.bipush (-13), 2) := by decide +kernel
theorem d_Mo_put_29 : decode prog_1_method_43_code 29 = .ok (.ireturn, 1) := by decide +kernel
theorem d_Mo_put_30 : decode prog_1_method_43_code 30 = .ok (.aload_n 0, 1) := by decide +kernel
theorem d_Mo_put_31 : decode prog_1_method_43_code 31 = .ok (.getfield 56, 3) := by decide +kernel
theorem d_Mo_put_34 : decode prog_1_method_43_code 34 = .ok (.iload_n 1, 1) := by decide +kernel
theorem d_Mo_put_35 : decode prog_1_method_43_code 35 = .ok (.iload_n 2, 1) := by decide +kernel
theorem d_Mo_put_36 : decode prog_1_method_43_code 36 = .ok (.lload_n 3, 1) := by decide +kernel
theorem d_Mo_put_37 : decode prog_1_method_43_code 37 = .ok (.invokevirtual 320, 3) := by decide +kernel
theorem d_Mo_put_40 : decode prog_1_method_43_code 40 = .ok (.iconst 1, 1) := by decide +kernel
theorem d_Mo_put_41 : decode prog_1_method_43_code 41 = .ok (.ireturn, 1) := by decide +kernel
theorem d_Mo_element_0 : decode prog_1_method_44_code 0 = .ok (.aload_n 0, 1) := by decide +kernel
