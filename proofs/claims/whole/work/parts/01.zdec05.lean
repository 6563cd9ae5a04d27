theorem d_Md_wears_10 : decode prog_14_method_62_code 10 = .ok (.aload_n 0, 1) := by decide +kernel
theorem d_Md_wears_11 : decode prog_14_method_62_code 11 = .ok (.getfield 49, 3) := by decide +kernel
theorem d_Md_wears_14 : decode prog_14_method_62_code 14 = .ok (.iload_n 2, 1) := by decide +kernel
theorem d_Md_wears_15 : decode prog_14_method_62_code 15 = .ok (.iaload, 1) := by decide +kernel
theorem d_Md_wears_16 : decode prog_14_method_62_code 16 = .ok (.iload_n 1, 1) := by decide +kernel
theorem d_Md_wears_17 : decode prog_14_method_62_code 17 = .ok (.iload_n 2, 1) := by decide +kernel
theorem d_Md_wears_18 : decode prog_14_method_62_code 18 = .ok (.invokestatic 131, 3) := by decide +kernel
theorem d_Md_wears_21 : decode prog_14_method_62_code 21 = .ok (.ifCond .eq 8, 3) := by decide +kernel
theorem d_Md_wears_24 : decode prog_14_method_62_code 24 = .ok (.bipush 10, 2) := by decide +kernel
theorem d_Md_wears_26 : decode prog_14_method_62_code 26 = .ok (.goto 4, 3) := by decide +kernel
theorem d_Md_wears_29 : decode prog_14_method_62_code 29 = .ok (.iconst 0, 1) := by decide +kernel
theorem d_Md_wears_30 : decode prog_14_method_62_code 30 = .ok (.iadd, 1) := by decide +kernel
theorem d_Md_wears_31 : decode prog_14_method_62_code 31 = .ok (.istore_n 3, 1) := by decide +kernel
theorem d_Md_wears_32 : decode prog_14_method_62_code 32 = .ok (.aload_n 0, 1) := by decide +kernel
theorem d_Md_wears_33 : decode prog_14_method_62_code 33 = .ok (.getfield 11, 3) := by decide +kernel
theorem d_Md_wears_36 : decode prog_14_method_62_code 36 = .ok (.iconst 5, 1) := by decide +kernel
theorem d_Md_wears_37 : decode prog_14_method_62_code 37 = .ok (.iload_n 2, 1) := by decide +kernel
theorem d_Md_wears_38 : decode prog_14_method_62_code 38 = .ok (.imul, 1) := by decide +kernel
theorem d_Md_wears_39 : decode prog_14_method_62_code 39 = .ok (.iconst 3, 1) := by decide +kernel
theorem d_Md_wears_40 : decode prog_14_method_62_code 40 = .ok (.iadd, 1) := by decide +kernel
theorem d_Md_wears_41 : decode prog_14_method_62_code 41 = .ok (.iload_n 3, 1) := by decide +kernel
theorem d_Md_wears_42 : decode prog_14_method_62_code 42 = .ok (.bipush 20, 2) := by decide +kernel
theorem d_Md_wears_44 : decode prog_14_method_62_code 44 = .ok (.if_icmp .le 8, 3) := by decide +kernel
theorem d_Md_wears_47 : decode prog_14_method_62_code 47 = .ok (.bipush 20, 2) := by decide +kernel
theorem d_Md_wears_49 : decode prog_14_method_62_code 49 = .ok (.goto 4, 3) := by decide +kernel
theorem d_Md_wears_52 : decode prog_14_method_62_code 52 = .ok (.iload_n 3, 1) := by decide +kernel
theorem d_Md_wears_53 : decode prog_14_method_62_code 53 = .ok (.iastore, 1) := by decide +kernel
theorem d_Md_wears_54 : decode prog_14_method_62_code 54 = .ok (.iinc 2 1, 3) := by decide +kernel
theorem d_Md_wears_57 : decode prog_14_method_62_code 57 = .ok (.goto (-55), 3) := by decide +kernel
theorem d_Md_wears_60 : decode prog_14_method_62_code 60 = .ok (.return_, 1) := by decide +kernel
theorem d_Md_heeled_0 : decode prog_14_method_63_code 0 = .ok (.aload_n 0, 1) := by decide +kernel
theorem d_Md_heeled_1 : decode prog_14_method_63_code 1 = .ok (.iload_n 1, 1) := by decide +kernel
theorem d_Md_heeled_2 : decode prog_14_method_63_code 2 = .ok (.invokevirtual 266, 3) := by decide +kernel
theorem d_Md_heeled_5 : decode prog_14_method_63_code 5 = .ok (.ifCond .ge 9, 3) := by decide +kernel
theorem d_Md_heeled_8 : decode prog_14_method_63_code 8 = .ok (.aload_n 0, 1) := by decide +kernel
theorem d_Md_heeled_9 : decode prog_14_method_63_code 9 = .ok (.iload_n 1, 1) := by decide +kernel
theorem d_Md_heeled_10 : decode prog_14_method_63_code 10 = .ok (.invokevirtual 266, 3) := by decide +kernel
theorem d_Md_heeled_13 : decode prog_14_method_63_code 13 = .ok (.ireturn, 1) := by decide +kernel
theorem d_Md_heeled_14 : decode prog_14_method_63_code 14 = .ok (.aload_n 0, 1) := by decide +kernel
theorem d_Md_heeled_15 : decode prog_14_method_63_code 15 = .ok (.getfield 86, 3) := by decide +kernel
theorem d_Md_heeled_18 : decode prog_14_method_63_code 18 = .ok (.bipush 8, 2) := by decide +kernel
theorem d_Md_heeled_20 : decode prog_14_method_63_code 20 = .ok (.if_icmp .le 6, 3) := by decide +kernel
theorem d_Md_heeled_23 : decode prog_14_method_63_code 23 = .ok (.bipush (-5), 2) := by decide +kernel
theorem d_Md_heeled_25 : decode prog_14_method_63_code 25 = .ok (.ireturn, 1) := by decide +kernel
theorem d_Md_heeled_26 : decode prog_14_method_63_code 26 = .ok (.iconst 0, 1) := by decide +kernel
theorem d_Md_heeled_27 : decode prog_14_method_63_code 27 = .ok (.istore_n 2, 1) := by decide +kernel
theorem d_Md_heeled_28 : decode prog_14_method_63_code 28 = .ok (.iload_n 2, 1) := by decide +kernel
theorem d_Md_heeled_29 : decode prog_14_method_63_code 29 = .ok (.aload_n 0, 1) := by decide +kernel
theorem d_Md_heeled_30 : decode prog_14_method_63_code 30 = .ok (.getfield 86, 3) := by decide +kernel
theorem d_Md_heeled_33 : decode prog_14_method_63_code 33 = .ok (.if_icmp .ge 25, 3) := by decide +kernel
theorem d_Md_heeled_36 : decode prog_14_method_63_code 36 = .ok (.aload_n 0, 1) := by decide +kernel
theorem d_Md_heeled_37 : decode prog_14_method_63_code 37 = .ok (.getfield 49, 3) := by decide +kernel
theorem d_Md_heeled_40 : decode prog_14_method_63_code 40 = .ok (.iload_n 2, 1) := by decide +kernel
theorem d_Md_heeled_41 : decode prog_14_method_63_code 41 = .ok (.aload_n 0, 1) := by decide +kernel
theorem d_Md_heeled_42 : decode prog_14_method_63_code 42 = .ok (.getfield 11, 3) := by decide +kernel
theorem d_Md_heeled_45 : decode prog_14_method_63_code 45 = .ok (.iconst 5, 1) := by decide +kernel
theorem d_Md_heeled_46 : decode prog_14_method_63_code 46 = .ok (.iload_n 2, 1) := by decide +kernel
theorem d_Md_heeled_47 : decode prog_14_method_63_code 47 = .ok (.imul, 1) := by decide +kernel
theorem d_Md_heeled_48 : decode prog_14_method_63_code 48 = .ok (.iconst 3, 1) := by decide +kernel
theorem d_Md_heeled_49 : decode prog_14_method_63_code 49 = .ok (.iadd, 1) := by decide +kernel
theorem d_Md_heeled_50 : decode prog_14_method_63_code 50 = .ok (.iaload, 1) := by decide +kernel
theorem d_Md_heeled_51 : decode prog_14_method_63_code 51 = .ok (.iastore, 1) := by decide +kernel
theorem d_Md_heeled_52 : decode prog_14_method_63_code 52 = .ok (.iinc 2 1, 3) := by decide +kernel
theorem d_Md_heeled_55 : decode prog_14_method_63_code 55 = .ok (.goto (-27), 3) := by decide +kernel
theorem d_Md_heeled_58 : decode prog_14_method_63_code 58 = .ok (.bipush (-2), 2) := by decide +kernel
theorem d_Md_heeled_60 : decode prog_14_method_63_code 60 = .ok (.istore_n 2, 1) := by decide +kernel
theorem d_Md_heeled_61 : decode prog_14_method_63_code 61 = .ok (.iconst 1, 1) := by decide +kernel
theorem d_Md_heeled_62 : decode prog_14_method_63_code 62 = .ok (.aload_n 0, 1) := by decide +kernel
theorem d_Md_heeled_63 : decode prog_14_method_63_code 63 = .ok (.getfield 86, 3) := by decide +kernel
theorem d_Md_heeled_66 : decode prog_14_method_63_code 66 = .ok (.ishl, 1) := by decide +kernel
theorem d_Md_heeled_67 : decode prog_14_method_63_code 67 = .ok (.iconst 1, 1) := by decide +kernel
theorem d_Md_heeled_68 : decode prog_14_method_63_code 68 = .ok (.isub, 1) := by decide +kernel
theorem d_Md_heeled_69 : decode prog_14_method_63_code 69 = .ok (.istore_n 3, 1) := by decide +kernel
theorem d_Md_heeled_70 : decode prog_14_method_63_code 70 = .ok (.iload_n 3, 1) := by decide +kernel
theorem d_Md_heeled_71 : decode prog_14_method_63_code 71 = .ok (.ifCond .lt 34, 3) := by decide +kernel
theorem d_Md_heeled_74 : decode prog_14_method_63_code 74 = .ok (.aload_n 0, 1) := by decide +kernel
theorem d_Md_heeled_75 : decode prog_14_method_63_code 75 = .ok (.iload_n 3, 1) := by decide +kernel
theorem d_Md_heeled_76 : decode prog_14_method_63_code 76 = .ok (.invokevirtual 272, 3) := by decide +kernel
theorem d_Md_heeled_79 : decode prog_14_method_63_code 79 = .ok (.aload_n 0, 1) := by decide +kernel
theorem d_Md_heeled_80 : decode prog_14_method_63_code 80 = .ok (.invokevirtual 230, 3) := by decide +kernel
theorem d_Md_heeled_83 : decode prog_14_method_63_code 83 = .ok (.aload_n 0, 1) := by decide +kernel
theorem d_Md_heeled_84 : decode prog_14_method_63_code 84 = .ok (.iload_n 1, 1) := by decide +kernel
theorem d_Md_heeled_85 : decode prog_14_method_63_code 85 = .ok (.invokevirtual 269, 3) := by decide +kernel
theorem d_Md_heeled_88 : decode prog_14_method_63_code 88 = .ok (.bipush (-2), 2) := by decide +kernel
theorem d_Md_heeled_90 : decode prog_14_method_63_code 90 = .ok (.if_icmp .ne 7, 3) := by decide +kernel
theorem d_Md_heeled_93 : decode prog_14_method_63_code 93 = .ok (.iload_n 3, 1) := by decide +kernel
theorem d_Md_heeled_94 : decode prog_14_method_63_code 94 = .ok (.goto 4, 3) := by decide +kernel
theorem d_Md_heeled_97 : decode prog_14_method_63_code 97 = .ok (.iload_n 2, 1) := by decide +kernel
theorem d_Md_heeled_98 : decode prog_14_method_63_code 98 = .ok (.istore_n 2, 1) := by decide +kernel
theorem d_Md_heeled_99 : decode prog_14_method_63_code 99 = .ok (.iinc 3 (-1), 3) := by decide +kernel
theorem d_Md_heeled_102 : decode prog_14_method_63_code 102 = .ok (.goto (-32), 3) := by decide +kernel
theorem d_Md_heeled_105 : decode prog_14_method_63_code 105 = .ok (.aload_n 0, 1) := by decide +kernel
theorem d_Md_heeled_106 : decode prog_14_method_63_code 106 = .ok (.iconst 0, 1) := by decide +kernel
theorem d_Md_heeled_107 : decode prog_14_method_63_code 107 = .ok (.invokevirtual 272, 3) := by decide +kernel
theorem d_Md_heeled_110 : decode prog_14_method_63_code 110 = .ok (.iload_n 2, 1) := by decide +kernel
theorem d_Md_heeled_111 : decode prog_14_method_63_code 111 = .ok (.ireturn, 1) := by decide +kernel
theorem d_Md_drawn_0 : decode prog_14_method_64_code 0 = .ok (.iload_n 2, 1) := by decide +kernel
theorem d_Md_drawn_1 : decode prog_14_method_64_code 1 = .ok (.i2l, 1) := by decide +kernel
theorem d_Md_drawn_2 : decode prog_14_method_64_code 2 = .ok (.lconst 1, 1) := by decide +kernel
theorem d_Md_drawn_3 : decode prog_14_method_64_code 3 = .ok (.ldc2_w 112, 3) := by decide +kernel
theorem d_Md_drawn_6 : decode prog_14_method_64_code 6 = .ok (.invokestatic 89, 3) := by decide +kernel
theorem d_Md_drawn_9 : decode prog_14_method_64_code 9 = .ok (.ifCond .eq 17, 3) := by decide +kernel
theorem d_Md_drawn_12 : decode prog_14_method_64_code 12 = .ok (.iload_n 3, 1) := by decide +kernel
theorem d_Md_drawn_13 : decode prog_14_method_64_code 13 = .ok (.iconst (-1), 1) := by decide +kernel
theorem d_Md_drawn_14 : decode prog_14_method_64_code 14 = .ok (.if_icmp .eq 14, 3) := by decide +kernel
theorem d_Md_drawn_17 : decode prog_14_method_64_code 17 = .ok (.aload_n 0, 1) := by decide +kernel
theorem d_Md_drawn_18 : decode prog_14_method_64_code 18 = .ok (.iload_n 3, 1) := by decide +kernel
theorem d_Md_drawn_19 : decode prog_14_method_64_code 19 = .ok (.i2l, 1) := by decide +kernel
theorem d_Md_drawn_20 : decode prog_14_method_64_code 20 = .ok (.invokevirtual 114, 3) := by decide +kernel
theorem d_Md_drawn_23 : decode prog_14_method_64_code 23 = .ok (.ifCond .ne 5, 3) := by decide +kernel
theorem d_Md_drawn_26 : decode prog_14_method_64_code 26 = .ok (.iconst (-1), 1) := by decide +kernel
theorem d_Md_drawn_27 : decode prog_14_method_64_code 27 = .ok (.ireturn, 1) := by decide +kernel
theorem d_Md_drawn_28 : decode prog_14_method_64_code 28 = .ok (.iconst 0, 1) := by decide +kernel
theorem d_Md_drawn_29 : decode prog_14_method_64_code 29 = .ok (.istore 4, 2) := by decide +kernel
theorem d_Md_drawn_31 : decode prog_14_method_64_code 31 = .ok (.iload 4, 2) := by decide +kernel
theorem d_Md_drawn_33 : decode prog_14_method_64_code 33 = .ok (.aload_n 0, 1) := by decide +kernel
theorem d_Md_drawn_34 : decode prog_14_method_64_code 34 = .ok (.getfield 86, 3) := by decide +kernel
theorem d_Md_drawn_37 : decode prog_14_method_64_code 37 = .ok (.if_icmp .ge 27, 3) := by decide +kernel
theorem d_Md_drawn_40 : decode prog_14_method_64_code 40 = .ok (.aload_n 0, 1) := by decide +kernel
theorem d_Md_drawn_41 : decode prog_14_method_64_code 41 = .ok (.getfield 52, 3) := by decide +kernel
theorem d_Md_drawn_44 : decode prog_14_method_64_code 44 = .ok (.iload 4, 2) := by decide +kernel
theorem d_Md_drawn_46 : decode prog_14_method_64_code 46 = .ok (.aload_n 0, 1) := by decide +kernel
theorem d_Md_drawn_47 : decode prog_14_method_64_code 47 = .ok (.getfield 11, 3) := by decide +kernel
theorem d_Md_drawn_50 : decode prog_14_method_64_code 50 = .ok (.iconst 5, 1) := by decide +kernel
theorem d_Md_drawn_51 : decode prog_14_method_64_code 51 = .ok (.iload 4, 2) := by decide +kernel
theorem d_Md_drawn_53 : decode prog_14_method_64_code 53 = .ok (.imul, 1) := by decide +kernel
theorem d_Md_drawn_54 : decode prog_14_method_64_code 54 = .ok (.iconst 1, 1) := by decide +kernel
theorem d_Md_drawn_55 : decode prog_14_method_64_code 55 = .ok (.iadd, 1) := by decide +kernel
theorem d_Md_drawn_56 : decode prog_14_method_64_code 56 = .ok (.iaload, 1) := by decide +kernel
theorem d_Md_drawn_57 : decode prog_14_method_64_code 57 = .ok (.iastore, 1) := by decide +kernel
theorem d_Md_drawn_58 : decode prog_14_method_64_code 58 = .ok (.iinc 4 1, 3) := by decide +kernel
theorem d_Md_drawn_61 : decode prog_14_method_64_code 61 = .ok (.goto (-30), 3) := by decide +kernel
theorem d_Md_drawn_64 : decode prog_14_method_64_code 64 = .ok (.iload_n 1, 1) := by decide +kernel
theorem d_Md_drawn_65 : decode prog_14_method_64_code 65 = .ok (.istore 4, 2) := by decide +kernel
theorem d_Md_drawn_67 : decode prog_14_method_64_code 67 = .ok (.iconst 0, 1) := by decide +kernel
theorem d_Md_drawn_68 : decode prog_14_method_64_code 68 = .ok (.istore 5, 2) := by decide +kernel
theorem d_Md_drawn_70 : decode prog_14_method_64_code 70 = .ok (.iconst 0, 1) := by decide +kernel
theorem d_Md_drawn_71 : decode prog_14_method_64_code 71 = .ok (.istore 6, 2) := by decide +kernel
theorem d_Md_drawn_73 : decode prog_14_method_64_code 73 = .ok (.iload 6, 2) := by decide +kernel
theorem d_Md_drawn_75 : decode prog_14_method_64_code 75 = .ok (.iload_n 2, 1) := by decide +kernel
theorem d_Md_drawn_76 : decode prog_14_method_64_code 76 = .ok (.if_icmp .ge 98, 3) := by decide +kernel
theorem d_Md_drawn_79 : decode prog_14_method_64_code 79 = .ok (.iconst 0, 1) := by decide +kernel
theorem d_Md_drawn_80 : decode prog_14_method_64_code 80 = .ok (.istore 7, 2) := by decide +kernel
theorem d_Md_drawn_82 : decode prog_14_method_64_code 82 = .ok (.iload 7, 2) := by decide +kernel
theorem d_Md_drawn_84 : decode prog_14_method_64_code 84 = .ok (.aload_n 0, 1) := by decide +kernel
theorem d_Md_drawn_85 : decode prog_14_method_64_code 85 = .ok (.getfield 86, 3) := by decide +kernel
theorem d_Md_drawn_88 : decode prog_14_method_64_code 88 = .ok (.if_icmp .ge 40, 3) := by decide +kernel
theorem d_Md_drawn_91 : decode prog_14_method_64_code 91 = .ok (.iload 4, 2) := by decide +kernel
theorem d_Md_drawn_93 : decode prog_14_method_64_code 93 = .ok (.ldc_w 275, 3) := by decide +kernel
theorem d_Md_drawn_96 : decode prog_14_method_64_code 96 = .ok (.imul, 1) := by decide +kernel
theorem d_Md_drawn_97 : decode prog_14_method_64_code 97 = .ok (.sipush 12345, 3) := by decide +kernel
theorem d_Md_drawn_100 : decode prog_14_method_64_code 100 = .ok (.iadd, 1) := by decide +kernel
theorem d_Md_drawn_101 : decode prog_14_method_64_code 101 = .ok (.istore 4, 2) := by decide +kernel
theorem d_Md_drawn_103 : decode prog_14_method_64_code 103 = .ok (.aload_n 0, 1) := by decide +kernel
theorem d_Md_drawn_104 : decode prog_14_method_64_code 104 = .ok (.getfield 11, 3) := by decide +kernel
theorem d_Md_drawn_107 : decode prog_14_method_64_code 107 = .ok (.iconst 5, 1) := by decide +kernel
theorem d_Md_drawn_108 : decode prog_14_method_64_code 108 = .ok (.iload 7, 2) := by decide +kernel
theorem d_Md_drawn_110 : decode prog_14_method_64_code 110 = .ok (.imul, 1) := by decide +kernel
theorem d_Md_drawn_111 : decode prog_14_method_64_code 111 = .ok (.iconst 1, 1) := by decide +kernel
theorem d_Md_drawn_112 : decode prog_14_method_64_code 112 = .ok (.iadd, 1) := by decide +kernel
theorem d_Md_drawn_113 : decode prog_14_method_64_code 113 = .ok (.iload 4, 2) := by decide +kernel
theorem d_Md_drawn_115 : decode prog_14_method_64_code 115 = .ok (.bipush 8, 2) := by decide +kernel
theorem d_Md_drawn_117 : decode prog_14_method_64_code 117 = .ok (.iushr, 1) := by decide +kernel
theorem d_Md_drawn_118 : decode prog_14_method_64_code 118 = .ok (.bipush 60, 2) := by decide +kernel
theorem d_Md_drawn_120 : decode prog_14_method_64_code 120 = .ok (.irem, 1) := by decide +kernel
theorem d_Md_drawn_121 : decode prog_14_method_64_code 121 = .ok (.iastore, 1) := by decide +kernel
theorem d_Md_drawn_122 : decode prog_14_method_64_code 122 = .ok (.iinc 7 1, 3) := by decide +kernel
theorem d_Md_drawn_125 : decode prog_14_method_64_code 125 = .ok (.goto (-43), 3) := by decide +kernel
theorem d_Md_drawn_128 : decode prog_14_method_64_code 128 = .ok (.aload_n 0, 1) := by decide +kernel
theorem d_Md_drawn_129 : decode prog_14_method_64_code 129 = .ok (.invokevirtual 230, 3) := by decide +kernel
theorem d_Md_drawn_132 : decode prog_14_method_64_code 132 = .ok (.aload_n 0, 1) := by decide +kernel
theorem d_Md_drawn_133 : decode prog_14_method_64_code 133 = .ok (.bipush 60, 2) := by decide +kernel
theorem d_Md_drawn_135 : decode prog_14_method_64_code 135 = .ok (.invokevirtual 233, 3) := by decide +kernel
theorem d_Md_drawn_138 : decode prog_14_method_64_code 138 = .ok (.iload 5, 2) := by decide +kernel
theorem d_Md_drawn_140 : decode prog_14_method_64_code 140 = .ok (.iload_n 3, 1) := by decide +kernel
theorem d_Md_drawn_141 : decode prog_14_method_64_code 141 = .ok (.ifCond .ge 10, 3) := by decide +kernel
theorem d_Md_drawn_144 : decode prog_14_method_64_code 144 = .ok (.aload_n 0, 1) := by decide +kernel
theorem d_Md_drawn_145 : decode prog_14_method_64_code 145 = .ok (.invokevirtual 239, 3) := by decide +kernel
theorem d_Md_drawn_148 : decode prog_14_method_64_code 148 = .ok (.goto 17, 3) := by decide +kernel
theorem d_Md_drawn_151 : decode prog_14_method_64_code 151 = .ok (.aload_n 0, 1) := by decide +kernel
theorem d_Md_drawn_152 : decode prog_14_method_64_code 152 = .ok (.getfield 40, 3) := by decide +kernel
theorem d_Md_drawn_155 : decode prog_14_method_64_code 155 = .ok (.iload_n 3, 1) := by decide +kernel
theorem d_Md_drawn_156 : decode prog_14_method_64_code 156 = .ok (.iaload, 1) := by decide +kernel
theorem d_Md_drawn_157 : decode prog_14_method_64_code 157 = .ok (.ifCond .lt 7, 3) := by decide +kernel
theorem d_Md_drawn_160 : decode prog_14_method_64_code 160 = .ok (.iconst 1, 1) := by decide +kernel
theorem d_Md_drawn_161 : decode prog_14_method_64_code 161 = .ok (.goto 4, 3) := by decide +kernel
theorem d_Md_drawn_164 : decode prog_14_method_64_code 164 = .ok (.iconst 0, 1) := by decide +kernel
theorem d_Md_drawn_165 : decode prog_14_method_64_code 165 = .ok (.iadd, 1) := by decide +kernel
theorem d_Md_drawn_166 : decode prog_14_method_64_code 166 = .ok (.istore 5, 2) := by decide +kernel
theorem d_Md_drawn_168 : decode prog_14_method_64_code 168 = .ok (.iinc 6 1, 3) := by decide +kernel
theorem d_Md_drawn_171 : decode prog_14_method_64_code 171 = .ok (.goto (-98), 3) := by decide +kernel
theorem d_Md_drawn_174 : decode prog_14_method_64_code 174 = .ok (.iconst 0, 1) := by decide +kernel
theorem d_Md_drawn_175 : decode prog_14_method_64_code 175 = .ok (.istore 6, 2) := by decide +kernel
theorem d_Md_drawn_177 : decode prog_14_method_64_code 177 = .ok (.iload 6, 2) := by decide +kernel
theorem d_Md_drawn_179 : decode prog_14_method_64_code 179 = .ok (.aload_n 0, 1) := by decide +kernel
theorem d_Md_drawn_180 : decode prog_14_method_64_code 180 = .ok (.getfield 86, 3) := by decide +kernel
theorem d_Md_drawn_183 : decode prog_14_method_64_code 183 = .ok (.if_icmp .ge 27, 3) := by decide +kernel
theorem d_Md_drawn_186 : decode prog_14_method_64_code 186 = .ok (.aload_n 0, 1) := by decide +kernel
theorem d_Md_drawn_187 : decode prog_14_method_64_code 187 = .ok (.getfield 11, 3) := by decide +kernel
theorem d_Md_drawn_190 : decode prog_14_method_64_code 190 = .ok (.iconst 5, 1) := by decide +kernel
theorem d_Md_drawn_191 : decode prog_14_method_64_code 191 = .ok (.iload 6, 2) := by decide +kernel
theorem d_Md_drawn_193 : decode prog_14_method_64_code 193 = .ok (.imul, 1) := by decide +kernel
theorem d_Md_drawn_194 : decode prog_14_method_64_code 194 = .ok (.iconst 1, 1) := by decide +kernel
theorem d_Md_drawn_195 : decode prog_14_method_64_code 195 = .ok (.iadd, 1) := by decide +kernel
theorem d_Md_drawn_196 : decode prog_14_method_64_code 196 = .ok (.aload_n 0, 1) := by decide +kernel
theorem d_Md_drawn_197 : decode prog_14_method_64_code 197 = .ok (.getfield 52, 3) := by decide +kernel
theorem d_Md_drawn_200 : decode prog_14_method_64_code 200 = .ok (.iload 6, 2) := by decide +kernel
theorem d_Md_drawn_202 : decode prog_14_method_64_code 202 = .ok (.iaload, 1) := by decide +kernel
theorem d_Md_drawn_203 : decode prog_14_method_64_code 203 = .ok (.iastore, 1) := by decide +kernel
theorem d_Md_drawn_204 : decode prog_14_method_64_code 204 = .ok (.iinc 6 1, 3) := by decide +kernel
theorem d_Md_drawn_207 : decode prog_14_method_64_code 207 = .ok (.goto (-30), 3) := by decide +kernel
theorem d_Md_drawn_210 : decode prog_14_method_64_code 210 = .ok (.iload 5, 2) := by decide +kernel
theorem d_Md_drawn_212 : decode prog_14_method_64_code 212 = .ok (.ireturn, 1) := by decide +kernel
theorem d_Md_waitMany_0 : decode prog_14_method_65_code 0 = .ok (.iconst 0, 1) := by decide +kernel
theorem d_Md_waitMany_1 : decode prog_14_method_65_code 1 = .ok (.istore_n 1, 1) := by decide +kernel
theorem d_Md_waitMany_2 : decode prog_14_method_65_code 2 = .ok (.iconst 0, 1) := by decide +kernel
theorem d_Md_waitMany_3 : decode prog_14_method_65_code 3 = .ok (.istore_n 2, 1) := by decide +kernel
theorem d_Md_waitMany_4 : decode prog_14_method_65_code 4 = .ok (.iload_n 2, 1) := by decide +kernel
theorem d_Md_waitMany_5 : decode prog_14_method_65_code 5 = .ok (.aload_n 0, 1) := by decide +kernel
theorem d_Md_waitMany_6 : decode prog_14_method_65_code 6 = .ok (.getfield 86, 3) := by decide +kernel
theorem d_Md_waitMany_9 : decode prog_14_method_65_code 9 = .ok (.if_icmp .ge 25, 3) := by decide +kernel
theorem d_Md_waitMany_12 : decode prog_14_method_65_code 12 = .ok (.iload_n 1, 1) := by decide +kernel
theorem d_Md_waitMany_13 : decode prog_14_method_65_code 13 = .ok (.aload_n 0, 1) := by decide +kernel
theorem d_Md_waitMany_14 : decode prog_14_method_65_code 14 = .ok (.iload_n 2, 1) := by decide +kernel
theorem d_Md_waitMany_15 : decode prog_14_method_65_code 15 = .ok (.invokevirtual 137, 3) := by decide +kernel
theorem d_Md_waitMany_18 : decode prog_14_method_65_code 18 = .ok (.ifCond .eq 7, 3) := by decide +kernel
theorem d_Md_waitMany_21 : decode prog_14_method_65_code 21 = .ok (.iconst 1, 1) := by decide +kernel
theorem d_Md_waitMany_22 : decode prog_14_method_65_code 22 = .ok (.goto 4, 3) := by decide +kernel
theorem d_Md_waitMany_25 : decode prog_14_method_65_code 25 = .ok (.iconst 0, 1) := by decide +kernel
theorem d_Md_waitMany_26 : decode prog_14_method_65_code 26 = .ok (.iadd, 1) := by decide +kernel
theorem d_Md_waitMany_27 : decode prog_14_method_65_code 27 = .ok (.istore_n 1, 1) := by decide +kernel
theorem d_Md_waitMany_28 : decode prog_14_method_65_code 28 = .ok (.iinc 2 1, 3) := by decide +kernel
theorem d_Md_waitMany_31 : decode prog_14_method_65_code 31 = .ok (.goto (-27), 3) := by decide +kernel
theorem d_Md_waitMany_34 : decode prog_14_method_65_code 34 = .ok (.iload_n 1, 1) := by decide +kernel
theorem d_Md_waitMany_35 : decode prog_14_method_65_code 35 = .ok (.ireturn, 1) := by decide +kernel
theorem d_Md_insideMany_0 : decode prog_14_method_66_code 0 = .ok (.iconst 0, 1) := by decide +kernel
theorem d_Md_insideMany_1 : decode prog_14_method_66_code 1 = .ok (.istore_n 1, 1) := by decide +kernel
theorem d_Md_insideMany_2 : decode prog_14_method_66_code 2 = .ok (.iconst 0, 1) := by decide +kernel
theorem d_Md_insideMany_3 : decode prog_14_method_66_code 3 = .ok (.istore_n 2, 1) := by decide +kernel
theorem d_Md_insideMany_4 : decode prog_14_method_66_code 4 = .ok (.iload_n 2, 1) := by decide +kernel
theorem d_Md_insideMany_5 : decode prog_14_method_66_code 5 = .ok (.aload_n 0, 1) := by decide +kernel
theorem d_Md_insideMany_6 : decode prog_14_method_66_code 6 = .ok (.getfield 86, 3) := by decide +kernel
theorem d_Md_insideMany_9 : decode prog_14_method_66_code 9 = .ok (.if_icmp .ge 26, 3) := by decide +kernel
theorem d_Md_insideMany_12 : decode prog_14_method_66_code 12 = .ok (.iload_n 1, 1) := by decide +kernel
theorem d_Md_insideMany_13 : decode prog_14_method_66_code 13 = .ok (.aload_n 0, 1) := by decide +kernel
theorem d_Md_insideMany_14 : decode prog_14_method_66_code 14 = .ok (.getfield 24, 3) := by decide +kernel
theorem d_Md_insideMany_17 : decode prog_14_method_66_code 17 = .ok (.iload_n 2, 1) := by decide +kernel
theorem d_Md_insideMany_18 : decode prog_14_method_66_code 18 = .ok (.iaload, 1) := by decide +kernel
theorem d_Md_insideMany_19 : decode prog_14_method_66_code 19 = .ok (.ifCond .lt 7, 3) := by decide +kernel
theorem d_Md_insideMany_22 : decode prog_14_method_66_code 22 = .ok (.iconst 1, 1) := by decide +kernel
theorem d_Md_insideMany_23 : decode prog_14_method_66_code 23 = .ok (.goto 4, 3) := by decide +kernel
theorem d_Md_insideMany_26 : decode prog_14_method_66_code 26 = .ok (.iconst 0, 1) := by decide +kernel
theorem d_Md_insideMany_27 : decode prog_14_method_66_code 27 = .ok (.iadd, 1) := by decide +kernel
theorem d_Md_insideMany_28 : decode prog_14_method_66_code 28 = .ok (.istore_n 1, 1) := by decide +kernel
theorem d_Md_insideMany_29 : decode prog_14_method_66_code 29 = .ok (.iinc 2 1, 3) := by decide +kernel
theorem d_Md_insideMany_32 : decode prog_14_method_66_code 32 = .ok (.goto (-28), 3) := by decide +kernel
theorem d_Md_insideMany_35 : decode prog_14_method_66_code 35 = .ok (.iload_n 1, 1) := by decide +kernel
theorem d_Md_insideMany_36 : decode prog_14_method_66_code 36 = .ok (.ireturn, 1) := by decide +kernel
theorem d_Md_strike_0 : decode prog_14_method_67_code 0 = .ok (.aload_n 0, 1) := by decide +kernel
theorem d_Md_strike_1 : decode prog_14_method_67_code 1 = .ok (.getfield 134, 3) := by decide +kernel
theorem d_Md_strike_4 : decode prog_14_method_67_code 4 = .ok (.sipush 999, 3) := by decide +kernel
theorem d_Md_strike_7 : decode prog_14_method_67_code 7 = .ok (.if_icmp .ne 6, 3) := by decide +kernel
theorem d_Md_strike_10 : decode prog_14_method_67_code 10 = .ok (.bipush (-5), 2) := by decide +kernel
theorem d_Md_strike_12 : decode prog_14_method_67_code 12 = .ok (.ireturn, 1) := by decide +kernel
theorem d_Md_strike_13 : decode prog_14_method_67_code 13 = .ok (.aload_n 0, 1) := by decide +kernel
theorem d_Md_strike_14 : decode prog_14_method_67_code 14 = .ok (.iconst 0, 1) := by decide +kernel
theorem d_Md_strike_15 : decode prog_14_method_67_code 15 = .ok (.putfield 214, 3) := by decide +kernel
theorem d_Md_strike_18 : decode prog_14_method_67_code 18 = .ok (.iconst 0, 1) := by decide +kernel
theorem d_Md_strike_19 : decode prog_14_method_67_code 19 = .ok (.istore_n 1, 1) := by decide +kernel
theorem d_Md_strike_20 : decode prog_14_method_67_code 20 = .ok (.iload_n 1, 1) := by decide +kernel
theorem d_Md_strike_21 : decode prog_14_method_67_code 21 = .ok (.aload_n 0, 1) := by decide +kernel
theorem d_Md_strike_22 : decode prog_14_method_67_code 22 = .ok (.getfield 86, 3) := by decide +kernel
theorem d_Md_strike_25 : decode prog_14_method_67_code 25 = .ok (.if_icmp .ge 37, 3) := by decide +kernel
theorem d_Md_strike_28 : decode prog_14_method_67_code 28 = .ok (.aload_n 0, 1) := by decide +kernel
theorem d_Md_strike_29 : decode prog_14_method_67_code 29 = .ok (.iload_n 1, 1) := by decide +kernel
theorem d_Md_strike_30 : decode prog_14_method_67_code 30 = .ok (.invokevirtual 137, 3) := by decide +kernel
theorem d_Md_strike_33 : decode prog_14_method_67_code 33 = .ok (.ifCond .eq 23, 3) := by decide +kernel
theorem d_Md_strike_36 : decode prog_14_method_67_code 36 = .ok (.aload_n 0, 1) := by decide +kernel
theorem d_Md_strike_37 : decode prog_14_method_67_code 37 = .ok (.getfield 43, 3) := by decide +kernel
theorem d_Md_strike_40 : decode prog_14_method_67_code 40 = .ok (.aload_n 0, 1) := by decide +kernel
theorem d_Md_strike_41 : decode prog_14_method_67_code 41 = .ok (.getfield 214, 3) := by decide +kernel
theorem d_Md_strike_44 : decode prog_14_method_67_code 44 = .ok (.iload_n 1, 1) := by decide +kernel
theorem d_Md_strike_45 : decode prog_14_method_67_code 45 = .ok (.iastore, 1) := by decide +kernel
theorem d_Md_strike_46 : decode prog_14_method_67_code 46 = .ok (.aload_n 0, 1) := by decide +kernel
theorem d_Md_strike_47 : decode prog_14_method_67_code 47 = .ok (.dup, 1) := by decide +kernel
theorem d_Md_strike_48 : decode prog_14_method_67_code 48 = .ok (.getfield 214, 3) := by decide +kernel
theorem d_Md_strike_51 : decode prog_14_method_67_code 51 = .ok (.iconst 1, 1) := by decide +kernel
theorem d_Md_strike_52 : decode prog_14_method_67_code 52 = .ok (.iadd, 1) := by decide +kernel
theorem d_Md_strike_53 : decode prog_14_method_67_code 53 = .ok (.putfield 214, 3) := by decide +kernel
theorem d_Md_strike_56 : decode prog_14_method_67_code 56 = .ok (.iinc 1 1, 3) := by decide +kernel
theorem d_Md_strike_59 : decode prog_14_method_67_code 59 = .ok (.goto (-39), 3) := by decide +kernel
theorem d_Md_strike_62 : decode prog_14_method_67_code 62 = .ok (.iconst 0, 1) := by decide +kernel
theorem d_Md_strike_63 : decode prog_14_method_67_code 63 = .ok (.istore_n 1, 1) := by decide +kernel
theorem d_Md_strike_64 : decode prog_14_method_67_code 64 = .ok (.iload_n 1, 1) := by decide +kernel
theorem d_Md_strike_65 : decode prog_14_method_67_code 65 = .ok (.aload_n 0, 1) := by decide +kernel
theorem d_Md_strike_66 : decode prog_14_method_67_code 66 = .ok (.getfield 214, 3) := by decide +kernel
theorem d_Md_strike_69 : decode prog_14_method_67_code 69 = .ok (.if_icmp .ge 33, 3) := by decide +kernel
theorem d_Md_strike_72 : decode prog_14_method_67_code 72 = .ok (.aload_n 0, 1) := by decide +kernel
theorem d_Md_strike_73 : decode prog_14_method_67_code 73 = .ok (.getfield 46, 3) := by decide +kernel
theorem d_Md_strike_76 : decode prog_14_method_67_code 76 = .ok (.iload_n 1, 1) := by decide +kernel
theorem d_Md_strike_77 : decode prog_14_method_67_code 77 = .ok (.aload_n 0, 1) := by decide +kernel
theorem d_Md_strike_78 : decode prog_14_method_67_code 78 = .ok (.aload_n 0, 1) := by decide +kernel
theorem d_Md_strike_79 : decode prog_14_method_67_code 79 = .ok (.getfield 43, 3) := by decide +kernel
theorem d_Md_strike_82 : decode prog_14_method_67_code 82 = .ok (.iload_n 1, 1) := by decide +kernel
theorem d_Md_strike_83 : decode prog_14_method_67_code 83 = .ok (.iaload, 1) := by decide +kernel
theorem d_Md_strike_84 : decode prog_14_method_67_code 84 = .ok (.aload_n 0, 1) := by decide +kernel
theorem d_Md_strike_85 : decode prog_14_method_67_code 85 = .ok (.getfield 134, 3) := by decide +kernel
theorem d_Md_strike_88 : decode prog_14_method_67_code 88 = .ok (.aload_n 0, 1) := by decide +kernel
theorem d_Md_strike_89 : decode prog_14_method_67_code 89 = .ok (.getfield 214, 3) := by decide +kernel
theorem d_Md_strike_92 : decode prog_14_method_67_code 92 = .ok (.invokevirtual 197, 3) := by decide +kernel
theorem d_Md_strike_95 : decode prog_14_method_67_code 95 = .ok (.iastore, 1) := by decide +kernel
theorem d_Md_strike_96 : decode prog_14_method_67_code 96 = .ok (.iinc 1 1, 3) := by decide +kernel
theorem d_Md_strike_99 : decode prog_14_method_67_code 99 = .ok (.goto (-35), 3) := by decide +kernel
theorem d_Md_strike_102 : decode prog_14_method_67_code 102 = .ok (.aload_n 0, 1) := by decide +kernel
theorem d_Md_strike_103 : decode prog_14_method_67_code 103 = .ok (.getfield 214, 3) := by decide +kernel
theorem d_Md_strike_106 : decode prog_14_method_67_code 106 = .ok (.iconst 2, 1) := by decide +kernel
theorem d_Md_strike_107 : decode prog_14_method_67_code 107 = .ok (.irem, 1) := by decide +kernel
theorem d_Md_strike_108 : decode prog_14_method_67_code 108 = .ok (.iconst 1, 1) := by decide +kernel
theorem d_Md_strike_109 : decode prog_14_method_67_code 109 = .ok (.if_icmp .ne 16, 3) := by decide +kernel
theorem d_Md_strike_112 : decode prog_14_method_67_code 112 = .ok (.aload_n 0, 1) := by decide +kernel
theorem d_Md_strike_113 : decode prog_14_method_67_code 113 = .ok (.aload_n 0, 1) := by decide +kernel
theorem d_Md_strike_114 : decode prog_14_method_67_code 114 = .ok (.getfield 214, 3) := by decide +kernel
theorem d_Md_strike_117 : decode prog_14_method_67_code 117 = .ok (.iconst 2, 1) := by decide +kernel
theorem d_Md_strike_118 : decode prog_14_method_67_code 118 = .ok (.idiv, 1) := by decide +kernel
theorem d_Md_strike_119 : decode prog_14_method_67_code 119 = .ok (.invokevirtual 221, 3) := by decide +kernel
theorem d_Md_strike_122 : decode prog_14_method_67_code 122 = .ok (.goto 5, 3) := by decide +kernel
theorem d_Md_strike_125 : decode prog_14_method_67_code 125 = .ok (.bipush (-2), 2) := by decide +kernel
theorem d_Md_strike_127 : decode prog_14_method_67_code 127 = .ok (.istore_n 1, 1) := by decide +kernel
theorem d_Md_strike_128 : decode prog_14_method_67_code 128 = .ok (.aload_n 0, 1) := by decide +kernel
theorem d_Md_strike_129 : decode prog_14_method_67_code 129 = .ok (.aload_n 0, 1) := by decide +kernel
theorem d_Md_strike_130 : decode prog_14_method_67_code 130 = .ok (.getfield 214, 3) := by decide +kernel
theorem d_Md_strike_133 : decode prog_14_method_67_code 133 = .ok (.aload_n 0, 1) := by decide +kernel
theorem d_Md_strike_134 : decode prog_14_method_67_code 134 = .ok (.getfield 276, 3) := by decide +kernel
theorem d_Md_strike_137 : decode prog_14_method_67_code 137 = .ok (.if_icmp .le 10, 3) := by decide +kernel
theorem d_Md_strike_140 : decode prog_14_method_67_code 140 = .ok (.aload_n 0, 1) := by decide +kernel
theorem d_Md_strike_141 : decode prog_14_method_67_code 141 = .ok (.getfield 214, 3) := by decide +kernel
theorem d_Md_strike_144 : decode prog_14_method_67_code 144 = .ok (.goto 7, 3) := by decide +kernel
theorem d_Md_strike_147 : decode prog_14_method_67_code 147 = .ok (.aload_n 0, 1) := by decide +kernel
theorem d_Md_strike_148 : decode prog_14_method_67_code 148 = .ok (.getfield 276, 3) := by decide +kernel
theorem d_Md_strike_151 : decode prog_14_method_67_code 151 = .ok (.putfield 276, 3) := by decide +kernel
theorem d_Md_strike_154 : decode prog_14_method_67_code 154 = .ok (.iload_n 1, 1) := by decide +kernel
theorem d_Md_strike_155 : decode prog_14_method_67_code 155 = .ok (.ifCond .lt 23, 3) := by decide +kernel
theorem d_Md_strike_158 : decode prog_14_method_67_code 158 = .ok (.aload_n 0, 1) := by decide +kernel
theorem d_Md_strike_159 : decode prog_14_method_67_code 159 = .ok (.getfield 24, 3) := by decide +kernel
theorem d_Md_strike_162 : decode prog_14_method_67_code 162 = .ok (.iload_n 1, 1) := by decide +kernel
theorem d_Md_strike_163 : decode prog_14_method_67_code 163 = .ok (.aload_n 0, 1) := by decide +kernel
theorem d_Md_strike_164 : decode prog_14_method_67_code 164 = .ok (.getfield 134, 3) := by decide +kernel
theorem d_Md_strike_167 : decode prog_14_method_67_code 167 = .ok (.iastore, 1) := by decide +kernel
theorem d_Md_strike_168 : decode prog_14_method_67_code 168 = .ok (.aload_n 0, 1) := by decide +kernel
theorem d_Md_strike_169 : decode prog_14_method_67_code 169 = .ok (.dup, 1) := by decide +kernel
theorem d_Md_strike_170 : decode prog_14_method_67_code 170 = .ok (.getfield 279, 3) := by decide +kernel
theorem d_Md_strike_173 : decode prog_14_method_67_code 173 = .ok (.iconst 1, 1) := by decide +kernel
theorem d_Md_strike_174 : decode prog_14_method_67_code 174 = .ok (.iadd, 1) := by decide +kernel
theorem d_Md_strike_175 : decode prog_14_method_67_code 175 = .ok (.putfield 279, 3) := by decide +kernel
theorem d_Md_strike_178 : decode prog_14_method_67_code 178 = .ok (.aload_n 0, 1) := by decide +kernel
theorem d_Md_strike_179 : decode prog_14_method_67_code 179 = .ok (.dup, 1) := by decide +kernel
theorem d_Md_strike_180 : decode prog_14_method_67_code 180 = .ok (.getfield 282, 3) := by decide +kernel
theorem d_Md_strike_183 : decode prog_14_method_67_code 183 = .ok (.iconst 1, 1) := by decide +kernel
theorem d_Md_strike_184 : decode prog_14_method_67_code 184 = .ok (.iadd, 1) := by decide +kernel
theorem d_Md_strike_185 : decode prog_14_method_67_code 185 = .ok (.putfield 282, 3) := by decide +kernel
theorem d_Md_strike_188 : decode prog_14_method_67_code 188 = .ok (.aload_n 0, 1) := by decide +kernel
theorem d_Md_strike_189 : decode prog_14_method_67_code 189 = .ok (.dup, 1) := by decide +kernel
theorem d_Md_strike_190 : decode prog_14_method_67_code 190 = .ok (.getfield 134, 3) := by decide +kernel
theorem d_Md_strike_193 : decode prog_14_method_67_code 193 = .ok (.iconst 1, 1) := by decide +kernel
theorem d_Md_strike_194 : decode prog_14_method_67_code 194 = .ok (.iadd, 1) := by decide +kernel
theorem d_Md_strike_195 : decode prog_14_method_67_code 195 = .ok (.putfield 134, 3) := by decide +kernel
theorem d_Md_strike_198 : decode prog_14_method_67_code 198 = .ok (.iload_n 1, 1) := by decide +kernel
theorem d_Md_strike_199 : decode prog_14_method_67_code 199 = .ok (.ireturn, 1) := by decide +kernel
theorem d_Md_take_0 : decode prog_14_method_68_code 0 = .ok (.aload_n 0, 1) := by decide +kernel
theorem d_Md_take_1 : decode prog_14_method_68_code 1 = .ok (.iload_n 1, 1) := by decide +kernel
theorem d_Md_take_2 : decode prog_14_method_68_code 2 = .ok (.i2l, 1) := by decide +kernel
theorem d_Md_take_3 : decode prog_14_method_68_code 3 = .ok (.invokevirtual 114, 3) := by decide +kernel
theorem d_Md_take_6 : decode prog_14_method_68_code 6 = .ok (.ifCond .ne 5, 3) := by decide +kernel
theorem d_Md_take_9 : decode prog_14_method_68_code 9 = .ok (.iconst (-1), 1) := by decide +kernel
theorem d_Md_take_10 : decode prog_14_method_68_code 10 = .ok (.ireturn, 1) := by decide +kernel
theorem d_Md_take_11 : decode prog_14_method_68_code 11 = .ok (.aload_n 0, 1) := by decide +kernel
theorem d_Md_take_12 : decode prog_14_method_68_code 12 = .ok (.iload_n 1, 1) := by decide +kernel
theorem d_Md_take_13 : decode prog_14_method_68_code 13 = .ok (.invokevirtual 137, 3) := by decide +kernel
theorem d_Md_take_16 : decode prog_14_method_68_code 16 = .ok (.ifCond .ne 6, 3) := by decide +kernel
theorem d_Md_take_19 : decode prog_14_method_68_code 19 = .ok (.bipush (-5), 2) := by decide +kernel
theorem d_Md_take_21 : decode prog_14_method_68_code 21 = .ok (.ireturn, 1) := by decide +kernel
theorem d_Md_take_22 : decode prog_14_method_68_code 22 = .ok (.aload_n 0, 1) := by decide +kernel
theorem d_Md_take_23 : decode prog_14_method_68_code 23 = .ok (.dup, 1) := by decide +kernel
theorem d_Md_take_24 : decode prog_14_method_68_code 24 = .ok (.getfield 128, 3) := by decide +kernel
theorem d_Md_take_27 : decode prog_14_method_68_code 27 = .ok (.iconst 1, 1) := by decide +kernel
theorem d_Md_take_28 : decode prog_14_method_68_code 28 = .ok (.iload_n 1, 1) := by decide +kernel
theorem d_Md_take_29 : decode prog_14_method_68_code 29 = .ok (.ishl, 1) := by decide +kernel
theorem d_Md_take_30 : decode prog_14_method_68_code 30 = .ok (.ior, 1) := by decide +kernel
theorem d_Md_take_31 : decode prog_14_method_68_code 31 = .ok (.putfield 128, 3) := by decide +kernel
theorem d_Md_take_34 : decode prog_14_method_68_code 34 = .ok (.aload_n 0, 1) := by decide +kernel
theorem d_Md_take_35 : decode prog_14_method_68_code 35 = .ok (.dup, 1) := by decide +kernel
theorem d_Md_take_36 : decode prog_14_method_68_code 36 = .ok (.getfield 285, 3) := by decide +kernel
theorem d_Md_take_39 : decode prog_14_method_68_code 39 = .ok (.iconst 1, 1) := by decide +kernel
theorem d_Md_take_40 : decode prog_14_method_68_code 40 = .ok (.iadd, 1) := by decide +kernel
theorem d_Md_take_41 : decode prog_14_method_68_code 41 = .ok (.putfield 285, 3) := by decide +kernel
theorem d_Md_take_44 : decode prog_14_method_68_code 44 = .ok (.aload_n 0, 1) := by decide +kernel
theorem d_Md_take_45 : decode prog_14_method_68_code 45 = .ok (.getfield 134, 3) := by decide +kernel
theorem d_Md_take_48 : decode prog_14_method_68_code 48 = .ok (.ireturn, 1) := by decide +kernel
theorem d_Md_dawn_0 : decode prog_14_method_69_code 0 = .ok (.aload_n 0, 1) := by decide +kernel
theorem d_Md_dawn_1 : decode prog_14_method_69_code 1 = .ok (.invokevirtual 288, 3) := by decide +kernel
theorem d_Md_dawn_4 : decode prog_14_method_69_code 4 = .ok (.istore_n 1, 1) := by decide +kernel
theorem d_Md_dawn_5 : decode prog_14_method_69_code 5 = .ok (.iconst 0, 1) := by decide +kernel
theorem d_Md_dawn_6 : decode prog_14_method_69_code 6 = .ok (.istore_n 2, 1) := by decide +kernel
theorem d_Md_dawn_7 : decode prog_14_method_69_code 7 = .ok (.iload_n 2, 1) := by decide +kernel
theorem d_Md_dawn_8 : decode prog_14_method_69_code 8 = .ok (.bipush 12, 2) := by decide +kernel
theorem d_Md_dawn_10 : decode prog_14_method_69_code 10 = .ok (.if_icmp .ge 17, 3) := by decide +kernel
theorem d_Md_dawn_13 : decode prog_14_method_69_code 13 = .ok (.aload_n 0, 1) := by decide +kernel
theorem d_Md_dawn_14 : decode prog_14_method_69_code 14 = .ok (.getfield 24, 3) := by decide +kernel
theorem d_Md_dawn_17 : decode prog_14_method_69_code 17 = .ok (.iload_n 2, 1) := by decide +kernel
theorem d_Md_dawn_18 : decode prog_14_method_69_code 18 = .ok (.bipush (-2), 2) := by decide +kernel
theorem d_Md_dawn_20 : decode prog_14_method_69_code 20 = .ok (.iastore, 1) := by decide +kernel
theorem d_Md_dawn_21 : decode prog_14_method_69_code 21 = .ok (.iinc 2 1, 3) := by decide +kernel
theorem d_Md_dawn_24 : decode prog_14_method_69_code 24 = .ok (.goto (-17), 3) := by decide +kernel
theorem d_Md_dawn_27 : decode prog_14_method_69_code 27 = .ok (.aload_n 0, 1) := by decide +kernel
theorem d_Md_dawn_28 : decode prog_14_method_69_code 28 = .ok (.iconst 0, 1) := by decide +kernel
theorem d_Md_dawn_29 : decode prog_14_method_69_code 29 = .ok (.putfield 128, 3) := by decide +kernel
theorem d_Md_dawn_32 : decode prog_14_method_69_code 32 = .ok (.aload_n 0, 1) := by decide +kernel
theorem d_Md_dawn_33 : decode prog_14_method_69_code 33 = .ok (.iconst 0, 1) := by decide +kernel
theorem d_Md_dawn_34 : decode prog_14_method_69_code 34 = .ok (.putfield 134, 3) := by decide +kernel
theorem d_Md_dawn_37 : decode prog_14_method_69_code 37 = .ok (.aload_n 0, 1) := by decide +kernel
theorem d_Md_dawn_38 : decode prog_14_method_69_code 38 = .ok (.dup, 1) := by decide +kernel
theorem d_Md_dawn_39 : decode prog_14_method_69_code 39 = .ok (.getfield 291, 3) := by decide +kernel
theorem d_Md_dawn_42 : decode prog_14_method_69_code 42 = .ok (.iconst 1, 1) := by decide +kernel
theorem d_Md_dawn_43 : decode prog_14_method_69_code 43 = .ok (.iadd, 1) := by decide +kernel
theorem d_Md_dawn_44 : decode prog_14_method_69_code 44 = .ok (.putfield 291, 3) := by decide +kernel
theorem d_Md_dawn_47 : decode prog_14_method_69_code 47 = .ok (.iload_n 1, 1) := by decide +kernel
theorem d_Md_dawn_48 : decode prog_14_method_69_code 48 = .ok (.ireturn, 1) := by decide +kernel
theorem d_Md_led_0 : decode prog_14_method_70_code 0 = .ok (.iload_n 1, 1) := by decide +kernel
theorem d_Md_led_1 : decode prog_14_method_70_code 1 = .ok (.tableswitch 69 0 5 #[39, 44, 49, 54, 59, 64], 39) := by decide +kernel
theorem d_Md_led_40 : decode prog_14_method_70_code 40 = .ok (.aload_n 0, 1) := by decide +kernel
theorem d_Md_led_41 : decode prog_14_method_70_code 41 = .ok (.getfield 282, 3) := by decide +kernel
theorem d_Md_led_44 : decode prog_14_method_70_code 44 = .ok (.ireturn, 1) := by decide +kernel
theorem d_Md_led_45 : decode prog_14_method_70_code 45 = .ok (.aload_n 0, 1) := by decide +kernel
theorem d_Md_led_46 : decode prog_14_method_70_code 46 = .ok (.getfield 279, 3) := by decide +kernel
theorem d_Md_led_49 : decode prog_14_method_70_code 49 = .ok (.ireturn, 1) := by decide +kernel
theorem d_Md_led_50 : decode prog_14_method_70_code 50 = .ok (.aload_n 0, 1) := by decide +kernel
theorem d_Md_led_51 : decode prog_14_method_70_code 51 = .ok (.getfield 285, 3) := by decide +kernel
theorem d_Md_led_54 : decode prog_14_method_70_code 54 = .ok (.ireturn, 1) := by decide +kernel
theorem d_Md_led_55 : decode prog_14_method_70_code 55 = .ok (.aload_n 0, 1) := by decide +kernel
theorem d_Md_led_56 : decode prog_14_method_70_code 56 = .ok (.getfield 291, 3) := by decide +kernel
theorem d_Md_led_59 : decode prog_14_method_70_code 59 = .ok (.ireturn, 1) := by decide +kernel
theorem d_Md_led_60 : decode prog_14_method_70_code 60 = .ok (.aload_n 0, 1) := by decide +kernel
theorem d_Md_led_61 : decode prog_14_method_70_code 61 = .ok (.getfield 276, 3) := by decide +kernel
theorem d_Md_led_64 : decode prog_14_method_70_code 64 = .ok (.ireturn, 1) := by decide +kernel
theorem d_Md_led_65 : decode prog_14_method_70_code 65 = .ok (.aload_n 0, 1) := by decide +kernel
theorem d_Md_led_66 : decode prog_14_method_70_code 66 = .ok (.getfield 134, 3) := by decide +kernel
theorem d_Md_led_69 : decode prog_14_method_70_code 69 = .ok (.ireturn, 1) := by decide +kernel
theorem d_Md_led_70 : decode prog_14_method_70_code 70 = .ok (.iconst (-1), 1) := by decide +kernel
theorem d_Md_led_71 : decode prog_14_method_70_code 71 = .ok (.ireturn, 1) := by decide +kernel
theorem d_Md_image_0 : decode prog_14_method_71_code 0 = .ok (.aload_n 0, 1) := by decide +kernel
theorem d_Md_image_1 : decode prog_14_method_71_code 1 = .ok (.iconst 1, 1) := by decide +kernel
theorem d_Md_image_2 : decode prog_14_method_71_code 2 = .ok (.putfield 294, 3) := by decide +kernel
theorem d_Md_image_5 : decode prog_14_method_71_code 5 = .ok (.aload_n 0, 1) := by decide +kernel
theorem d_Md_image_6 : decode prog_14_method_71_code 6 = .ok (.aload_n 0, 1) := by decide +kernel
theorem d_Md_image_7 : decode prog_14_method_71_code 7 = .ok (.getfield 86, 3) := by decide +kernel
theorem d_Md_image_10 : decode prog_14_method_71_code 10 = .ok (.putfield 298, 3) := by decide +kernel
theorem d_Md_image_13 : decode prog_14_method_71_code 13 = .ok (.aload_n 0, 1) := by decide +kernel
theorem d_Md_image_14 : decode prog_14_method_71_code 14 = .ok (.aload_n 0, 1) := by decide +kernel
theorem d_Md_image_15 : decode prog_14_method_71_code 15 = .ok (.getfield 128, 3) := by decide +kernel
theorem d_Md_image_18 : decode prog_14_method_71_code 18 = .ok (.putfield 301, 3) := by decide +kernel
theorem d_Md_image_21 : decode prog_14_method_71_code 21 = .ok (.iconst 0, 1) := by decide +kernel
theorem d_Md_image_22 : decode prog_14_method_71_code 22 = .ok (.istore_n 1, 1) := by decide +kernel
theorem d_Md_image_23 : decode prog_14_method_71_code 23 = .ok (.iload_n 1, 1) := by decide +kernel
theorem d_Md_image_24 : decode prog_14_method_71_code 24 = .ok (.bipush 12, 2) := by decide +kernel
theorem d_Md_image_26 : decode prog_14_method_71_code 26 = .ok (.if_icmp .ge 21, 3) := by decide +kernel
theorem d_Md_image_29 : decode prog_14_method_71_code 29 = .ok (.aload_n 0, 1) := by decide +kernel
theorem d_Md_image_30 : decode prog_14_method_71_code 30 = .ok (.getfield 55, 3) := by decide +kernel
theorem d_Md_image_33 : decode prog_14_method_71_code 33 = .ok (.iload_n 1, 1) := by decide +kernel
theorem d_Md_image_34 : decode prog_14_method_71_code 34 = .ok (.aload_n 0, 1) := by decide +kernel
theorem d_Md_image_35 : decode prog_14_method_71_code 35 = .ok (.getfield 24, 3) := by decide +kernel
theorem d_Md_image_38 : decode prog_14_method_71_code 38 = .ok (.iload_n 1, 1) := by decide +kernel
theorem d_Md_image_39 : decode prog_14_method_71_code 39 = .ok (.iaload, 1) := by decide +kernel
theorem d_Md_image_40 : decode prog_14_method_71_code 40 = .ok (.iastore, 1) := by decide +kernel
theorem d_Md_image_41 : decode prog_14_method_71_code 41 = .ok (.iinc 1 1, 3) := by decide +kernel
theorem d_Md_image_44 : decode prog_14_method_71_code 44 = .ok (.goto (-21), 3) := by decide +kernel
theorem d_Md_image_47 : decode prog_14_method_71_code 47 = .ok (.iconst 0, 1) := by decide +kernel
theorem d_Md_image_48 : decode prog_14_method_71_code 48 = .ok (.istore_n 1, 1) := by decide +kernel
theorem d_Md_image_49 : decode prog_14_method_71_code 49 = .ok (.iload_n 1, 1) := by decide +kernel
theorem d_Md_image_50 : decode prog_14_method_71_code 50 = .ok (.bipush 6, 2) := by decide +kernel
theorem d_Md_image_52 : decode prog_14_method_71_code 52 = .ok (.if_icmp .ge 23, 3) := by decide +kernel
theorem d_Md_image_55 : decode prog_14_method_71_code 55 = .ok (.aload_n 0, 1) := by decide +kernel
theorem d_Md_image_56 : decode prog_14_method_71_code 56 = .ok (.getfield 55, 3) := by decide +kernel
theorem d_Md_image_59 : decode prog_14_method_71_code 59 = .ok (.bipush 12, 2) := by decide +kernel
theorem d_Md_image_61 : decode prog_14_method_71_code 61 = .ok (.iload_n 1, 1) := by decide +kernel
theorem d_Md_image_62 : decode prog_14_method_71_code 62 = .ok (.iadd, 1) := by decide +kernel
theorem d_Md_image_63 : decode prog_14_method_71_code 63 = .ok (.aload_n 0, 1) := by decide +kernel
theorem d_Md_image_64 : decode prog_14_method_71_code 64 = .ok (.iload_n 1, 1) := by decide +kernel
theorem d_Md_image_65 : decode prog_14_method_71_code 65 = .ok (.invokevirtual 304, 3) := by decide +kernel
theorem d_Md_image_68 : decode prog_14_method_71_code 68 = .ok (.iastore, 1) := by decide +kernel
theorem d_Md_image_69 : decode prog_14_method_71_code 69 = .ok (.iinc 1 1, 3) := by decide +kernel
theorem d_Md_image_72 : decode prog_14_method_71_code 72 = .ok (.goto (-23), 3) := by decide +kernel
theorem d_Md_image_75 : decode prog_14_method_71_code 75 = .ok (.aload_n 0, 1) := by decide +kernel
theorem d_Md_image_76 : decode prog_14_method_71_code 76 = .ok (.getfield 134, 3) := by decide +kernel
theorem d_Md_image_79 : decode prog_14_method_71_code 79 = .ok (.ireturn, 1) := by decide +kernel
theorem d_Md_back_0 : decode prog_14_method_72_code 0 = .ok (.aload_n 0, 1) := by decide +kernel
theorem d_Md_back_1 : decode prog_14_method_72_code 1 = .ok (.getfield 294, 3) := by decide +kernel
theorem d_Md_back_4 : decode prog_14_method_72_code 4 = .ok (.ifCond .ne 6, 3) := by decide +kernel
theorem d_Md_back_7 : decode prog_14_method_72_code 7 = .ok (.bipush (-5), 2) := by decide +kernel
theorem d_Md_back_9 : decode prog_14_method_72_code 9 = .ok (.ireturn, 1) := by decide +kernel
theorem d_Md_back_10 : decode prog_14_method_72_code 10 = .ok (.iconst 0, 1) := by decide +kernel
theorem d_Md_back_11 : decode prog_14_method_72_code 11 = .ok (.istore_n 1, 1) := by decide +kernel
theorem d_Md_back_12 : decode prog_14_method_72_code 12 = .ok (.iload_n 1, 1) := by decide +kernel
theorem d_Md_back_13 : decode prog_14_method_72_code 13 = .ok (.bipush 12, 2) := by decide +kernel
theorem d_Md_back_15 : decode prog_14_method_72_code 15 = .ok (.if_icmp .ge 34, 3) := by decide +kernel
theorem d_Md_back_18 : decode prog_14_method_72_code 18 = .ok (.aload_n 0, 1) := by decide +kernel
theorem d_Md_back_19 : decode prog_14_method_72_code 19 = .ok (.getfield 24, 3) := by decide +kernel
theorem d_Md_back_22 : decode prog_14_method_72_code 22 = .ok (.iload_n 1, 1) := by decide +kernel
theorem d_Md_back_23 : decode prog_14_method_72_code 23 = .ok (.iload_n 1, 1) := by decide +kernel
theorem d_Md_back_24 : decode prog_14_method_72_code 24 = .ok (.aload_n 0, 1) := by decide +kernel
theorem d_Md_back_25 : decode prog_14_method_72_code 25 = .ok (.getfield 298, 3) := by decide +kernel
theorem d_Md_back_28 : decode prog_14_method_72_code 28 = .ok (.if_icmp .ge 12, 3) := by decide +kernel
theorem d_Md_back_31 : decode prog_14_method_72_code 31 = .ok (.aload_n 0, 1) := by decide +kernel
theorem d_Md_back_32 : decode prog_14_method_72_code 32 = .ok (.getfield 55, 3) := by decide +kernel
theorem d_Md_back_35 : decode prog_14_method_72_code 35 = .ok (.iload_n 1, 1) := by decide +kernel
theorem d_Md_back_36 : decode prog_14_method_72_code 36 = .ok (.iaload, 1) := by decide +kernel
theorem d_Md_back_37 : decode prog_14_method_72_code 37 = .ok (.goto 5, 3) := by decide +kernel
theorem d_Md_back_40 : decode prog_14_method_72_code 40 = .ok (.bipush (-2), 2) := by decide +kernel
theorem d_Md_back_42 : decode prog_14_method_72_code 42 = .ok (.iastore, 1) := by decide +kernel
theorem d_Md_back_43 : decode prog_14_method_72_code 43 = .ok (.iinc 1 1, 3) := by decide +kernel
theorem d_Md_back_46 : decode prog_14_method_72_code 46 = .ok (.goto (-34), 3) := by decide +kernel
theorem d_Md_back_49 : decode prog_14_method_72_code 49 = .ok (.aload_n 0, 1) := by decide +kernel
theorem d_Md_back_50 : decode prog_14_method_72_code 50 = .ok (.aload_n 0, 1) := by decide +kernel
theorem d_Md_back_51 : decode prog_14_method_72_code 51 = .ok (.getfield 301, 3) := by decide +kernel
theorem d_Md_back_54 : decode prog_14_method_72_code 54 = .ok (.putfield 128, 3) := by decide +kernel
theorem d_Md_back_57 : decode prog_14_method_72_code 57 = .ok (.aload_n 0, 1) := by decide +kernel
theorem d_Md_back_58 : decode prog_14_method_72_code 58 = .ok (.aload_n 0, 1) := by decide +kernel
theorem d_Md_back_59 : decode prog_14_method_72_code 59 = .ok (.getfield 55, 3) := by decide +kernel
theorem d_Md_back_62 : decode prog_14_method_72_code 62 = .ok (.bipush 12, 2) := by decide +kernel
theorem d_Md_back_64 : decode prog_14_method_72_code 64 = .ok (.iaload, 1) := by decide +kernel
theorem d_Md_back_65 : decode prog_14_method_72_code 65 = .ok (.putfield 282, 3) := by decide +kernel
theorem d_Md_back_68 : decode prog_14_method_72_code 68 = .ok (.aload_n 0, 1) := by decide +kernel
theorem d_Md_back_69 : decode prog_14_method_72_code 69 = .ok (.aload_n 0, 1) := by decide +kernel
theorem d_Md_back_70 : decode prog_14_method_72_code 70 = .ok (.getfield 55, 3) := by decide +kernel
theorem d_Md_back_73 : decode prog_14_method_72_code 73 = .ok (.bipush 13, 2) := by decide +kernel
theorem d_Md_back_75 : decode prog_14_method_72_code 75 = .ok (.iaload, 1) := by decide +kernel
theorem d_Md_back_76 : decode prog_14_method_72_code 76 = .ok (.putfield 279, 3) := by decide +kernel
theorem d_Md_back_79 : decode prog_14_method_72_code 79 = .ok (.aload_n 0, 1) := by decide +kernel
theorem d_Md_back_80 : decode prog_14_method_72_code 80 = .ok (.aload_n 0, 1) := by decide +kernel
theorem d_Md_back_81 : decode prog_14_method_72_code 81 = .ok (.getfield 55, 3) := by decide +kernel
theorem d_Md_back_84 : decode prog_14_method_72_code 84 = .ok (.bipush 14, 2) := by decide +kernel
theorem d_Md_back_86 : decode prog_14_method_72_code 86 = .ok (.iaload, 1) := by decide +kernel
theorem d_Md_back_87 : decode prog_14_method_72_code 87 = .ok (.putfield 285, 3) := by decide +kernel
theorem d_Md_back_90 : decode prog_14_method_72_code 90 = .ok (.aload_n 0, 1) := by decide +kernel
theorem d_Md_back_91 : decode prog_14_method_72_code 91 = .ok (.aload_n 0, 1) := by decide +kernel
theorem d_Md_back_92 : decode prog_14_method_72_code 92 = .ok (.getfield 55, 3) := by decide +kernel
theorem d_Md_back_95 : decode prog_14_method_72_code 95 = .ok (.bipush 15, 2) := by decide +kernel
theorem d_Md_back_97 : decode prog_14_method_72_code 97 = .ok (.iaload, 1) := by decide +kernel
theorem d_Md_back_98 : decode prog_14_method_72_code 98 = .ok (.putfield 291, 3) := by decide +kernel
theorem d_Md_back_101 : decode prog_14_method_72_code 101 = .ok (.aload_n 0, 1) := by decide +kernel
theorem d_Md_back_102 : decode prog_14_method_72_code 102 = .ok (.aload_n 0, 1) := by decide +kernel
theorem d_Md_back_103 : decode prog_14_method_72_code 103 = .ok (.getfield 55, 3) := by decide +kernel
theorem d_Md_back_106 : decode prog_14_method_72_code 106 = .ok (.bipush 16, 2) := by decide +kernel
theorem d_Md_back_108 : decode prog_14_method_72_code 108 = .ok (.iaload, 1) := by decide +kernel
theorem d_Md_back_109 : decode prog_14_method_72_code 109 = .ok (.putfield 276, 3) := by decide +kernel
theorem d_Md_back_112 : decode prog_14_method_72_code 112 = .ok (.aload_n 0, 1) := by decide +kernel
theorem d_Md_back_113 : decode prog_14_method_72_code 113 = .ok (.aload_n 0, 1) := by decide +kernel
theorem d_Md_back_114 : decode prog_14_method_72_code 114 = .ok (.getfield 55, 3) := by decide +kernel
theorem d_Md_back_117 : decode prog_14_method_72_code 117 = .ok (.bipush 17, 2) := by decide +kernel
theorem d_Md_back_119 : decode prog_14_method_72_code 119 = .ok (.iaload, 1) := by decide +kernel
theorem d_Md_back_120 : decode prog_14_method_72_code 120 = .ok (.putfield 134, 3) := by decide +kernel
theorem d_Md_back_123 : decode prog_14_method_72_code 123 = .ok (.aload_n 0, 1) := by decide +kernel
theorem d_Md_back_124 : decode prog_14_method_72_code 124 = .ok (.getfield 134, 3) := by decide +kernel
theorem d_Md_back_127 : decode prog_14_method_72_code 127 = .ok (.ireturn, 1) := by decide +kernel
theorem d_Md_isBody_0 : decode prog_14_method_73_code 0 = .ok (.iload_n 1, 1) := by decide +kernel
theorem d_Md_isBody_1 : decode prog_14_method_73_code 1 = .ok (.i2l, 1) := by decide +kernel
theorem d_Md_isBody_2 : decode prog_14_method_73_code 2 = .ok (.lconst 0, 1) := by decide +kernel
theorem d_Md_isBody_3 : decode prog_14_method_73_code 3 = .ok (.aload_n 0, 1) := by decide +kernel
theorem d_Md_isBody_4 : decode prog_14_method_73_code 4 = .ok (.getfield 307, 3) := by decide +kernel
theorem d_Md_isBody_7 : decode prog_14_method_73_code 7 = .ok (.iconst 1, 1) := by decide +kernel
theorem d_Md_isBody_8 : decode prog_14_method_73_code 8 = .ok (.isub, 1) := by decide +kernel
theorem d_Md_isBody_9 : decode prog_14_method_73_code 9 = .ok (.i2l, 1) := by decide +kernel
theorem d_Md_isBody_10 : decode prog_14_method_73_code 10 = .ok (.invokestatic 89, 3) := by decide +kernel
theorem d_Md_isBody_13 : decode prog_14_method_73_code 13 = .ok (.ireturn, 1) := by decide +kernel
theorem d_Md_kindOf_0 : decode prog_14_method_74_code 0 = .ok (.aload_n 0, 1) := by decide +kernel
theorem d_Md_kindOf_1 : decode prog_14_method_74_code 1 = .ok (.getfield 58, 3) := by decide +kernel
theorem d_Md_kindOf_4 : decode prog_14_method_74_code 4 = .ok (.iload_n 1, 1) := by decide +kernel
theorem d_Md_kindOf_5 : decode prog_14_method_74_code 5 = .ok (.iaload, 1) := by decide +kernel
theorem d_Md_kindOf_6 : decode prog_14_method_74_code 6 = .ok (.ireturn, 1) := by decide +kernel
theorem d_Md_body_0 : decode prog_14_method_75_code 0 = .ok (.iload_n 1, 1) := by decide +kernel
theorem d_Md_body_1 : decode prog_14_method_75_code 1 = .ok (.i2l, 1) := by decide +kernel
theorem d_Md_body_2 : decode prog_14_method_75_code 2 = .ok (.lconst 0, 1) := by decide +kernel
theorem d_Md_body_3 : decode prog_14_method_75_code 3 = .ok (.ldc2_w 310, 3) := by decide +kernel
theorem d_Md_body_6 : decode prog_14_method_75_code 6 = .ok (.invokestatic 89, 3) := by decide +kernel
theorem d_Md_body_9 : decode prog_14_method_75_code 9 = .ok (.ifCond .ne 5, 3) := by decide +kernel
theorem d_Md_body_12 : decode prog_14_method_75_code 12 = .ok (.iconst (-1), 1) := by decide +kernel
theorem d_Md_body_13 : decode prog_14_method_75_code 13 = .ok (.ireturn, 1) := by decide +kernel
theorem d_Md_body_14 : decode prog_14_method_75_code 14 = .ok (.aload_n 0, 1) := by decide +kernel
theorem d_Md_body_15 : decode prog_14_method_75_code 15 = .ok (.getfield 307, 3) := by decide +kernel
theorem d_Md_body_18 : decode prog_14_method_75_code 18 = .ok (.bipush 50, 2) := by decide +kernel
theorem d_Md_body_20 : decode prog_14_method_75_code 20 = .ok (.if_icmp .ne 6, 3) := by decide +kernel
theorem d_Md_body_23 : decode prog_14_method_75_code 23 = .ok (.bipush (-3), 2) := by decide +kernel
theorem d_Md_body_25 : decode prog_14_method_75_code 25 = .ok (.ireturn, 1) := by decide +kernel
theorem d_Md_body_26 : decode prog_14_method_75_code 26 = .ok (.aload_n 0, 1) := by decide +kernel
theorem d_Md_body_27 : decode prog_14_method_75_code 27 = .ok (.getfield 58, 3) := by decide +kernel
theorem d_Md_body_30 : decode prog_14_method_75_code 30 = .ok (.aload_n 0, 1) := by decide +kernel
theorem d_Md_body_31 : decode prog_14_method_75_code 31 = .ok (.getfield 307, 3) := by decide +kernel
theorem d_Md_body_34 : decode prog_14_method_75_code 34 = .ok (.iload_n 1, 1) := by decide +kernel
theorem d_Md_body_35 : decode prog_14_method_75_code 35 = .ok (.iastore, 1) := by decide +kernel
theorem d_Md_body_36 : decode prog_14_method_75_code 36 = .ok (.aload_n 0, 1) := by decide +kernel
theorem d_Md_body_37 : decode prog_14_method_75_code 37 = .ok (.dup, 1) := by decide +kernel
theorem d_Md_body_38 : decode prog_14_method_75_code 38 = .ok (.getfield 307, 3) := by decide +kernel
theorem d_Md_body_41 : decode prog_14_method_75_code 41 = .ok (.iconst 1, 1) := by decide +kernel
theorem d_Md_body_42 : decode prog_14_method_75_code 42 = .ok (.iadd, 1) := by decide +kernel
theorem d_Md_body_43 : decode prog_14_method_75_code 43 = .ok (.putfield 307, 3) := by decide +kernel
theorem d_Md_body_46 : decode prog_14_method_75_code 46 = .ok (.aload_n 0, 1) := by decide +kernel
theorem d_Md_body_47 : decode prog_14_method_75_code 47 = .ok (.getfield 307, 3) := by decide +kernel
theorem d_Md_body_50 : decode prog_14_method_75_code 50 = .ok (.iconst 1, 1) := by decide +kernel
theorem d_Md_body_51 : decode prog_14_method_75_code 51 = .ok (.isub, 1) := by decide +kernel
theorem d_Md_body_52 : decode prog_14_method_75_code 52 = .ok (.ireturn, 1) := by decide +kernel
theorem d_Md_above_0 : decode prog_14_method_76_code 0 = .ok (.iload_n 0, 1) := by decide +kernel
theorem d_Md_above_1 : decode prog_14_method_76_code 1 = .ok (.iconst 3, 1) := by decide +kernel
theorem d_Md_above_2 : decode prog_14_method_76_code 2 = .ok (.if_icmp .ne 7, 3) := by decide +kernel
theorem d_Md_above_5 : decode prog_14_method_76_code 5 = .ok (.iconst 2, 1) := by decide +kernel
theorem d_Md_above_6 : decode prog_14_method_76_code 6 = .ok (.goto 32, 3) := by decide +kernel
theorem d_Md_above_9 : decode prog_14_method_76_code 9 = .ok (.iload_n 0, 1) := by decide +kernel
theorem d_Md_above_10 : decode prog_14_method_76_code 10 = .ok (.iconst 4, 1) := by decide +kernel
theorem d_Md_above_11 : decode prog_14_method_76_code 11 = .ok (.if_icmp .ne 7, 3) := by decide +kernel
theorem d_Md_above_14 : decode prog_14_method_76_code 14 = .ok (.iconst 1, 1) := by decide +kernel
theorem d_Md_above_15 : decode prog_14_method_76_code 15 = .ok (.goto 23, 3) := by decide +kernel
theorem d_Md_above_18 : decode prog_14_method_76_code 18 = .ok (.iload_n 0, 1) := by decide +kernel
theorem d_Md_above_19 : decode prog_14_method_76_code 19 = .ok (.iconst 5, 1) := by decide +kernel
theorem d_Md_above_20 : decode prog_14_method_76_code 20 = .ok (.if_icmp .ne 7, 3) := by decide +kernel
theorem d_Md_above_23 : decode prog_14_method_76_code 23 = .ok (.iconst 3, 1) := by decide +kernel
theorem d_Md_above_24 : decode prog_14_method_76_code 24 = .ok (.goto 14, 3) := by decide +kernel
theorem d_Md_above_27 : decode prog_14_method_76_code 27 = .ok (.iload_n 0, 1) := by decide +kernel
theorem d_Md_above_28 : decode prog_14_method_76_code 28 = .ok (.bipush 7, 2) := by decide +kernel
theorem d_Md_above_30 : decode prog_14_method_76_code 30 = .ok (.if_icmp .ne 7, 3) := by decide +kernel
theorem d_Md_above_33 : decode prog_14_method_76_code 33 = .ok (.iconst 4, 1) := by decide +kernel
theorem d_Md_above_34 : decode prog_14_method_76_code 34 = .ok (.goto 4, 3) := by decide +kernel
theorem d_Md_above_37 : decode prog_14_method_76_code 37 = .ok (.iconst 0, 1) := by decide +kernel
theorem d_Md_above_38 : decode prog_14_method_76_code 38 = .ok (.ireturn, 1) := by decide +kernel
theorem d_Md_begins_0 : decode prog_14_method_77_code 0 = .ok (.aload_n 0, 1) := by decide +kernel
theorem d_Md_begins_1 : decode prog_14_method_77_code 1 = .ok (.getfield 312, 3) := by decide +kernel
theorem d_Md_begins_4 : decode prog_14_method_77_code 4 = .ok (.bipush 24, 2) := by decide +kernel
theorem d_Md_begins_6 : decode prog_14_method_77_code 6 = .ok (.if_icmp .ge 13, 3) := by decide +kernel
theorem d_Md_begins_9 : decode prog_14_method_77_code 9 = .ok (.aload_n 0, 1) := by decide +kernel
theorem d_Md_begins_10 : decode prog_14_method_77_code 10 = .ok (.getfield 61, 3) := by decide +kernel
theorem d_Md_begins_13 : decode prog_14_method_77_code 13 = .ok (.aload_n 0, 1) := by decide +kernel
theorem d_Md_begins_14 : decode prog_14_method_77_code 14 = .ok (.getfield 312, 3) := by decide +kernel
theorem d_Md_begins_17 : decode prog_14_method_77_code 17 = .ok (.iload_n 1, 1) := by decide +kernel
theorem d_Md_begins_18 : decode prog_14_method_77_code 18 = .ok (.iastore, 1) := by decide +kernel
theorem d_Md_begins_19 : decode prog_14_method_77_code 19 = .ok (.aload_n 0, 1) := by decide +kernel
theorem d_Md_begins_20 : decode prog_14_method_77_code 20 = .ok (.dup, 1) := by decide +kernel
theorem d_Md_begins_21 : decode prog_14_method_77_code 21 = .ok (.getfield 312, 3) := by decide +kernel
theorem d_Md_begins_24 : decode prog_14_method_77_code 24 = .ok (.iconst 1, 1) := by decide +kernel
theorem d_Md_begins_25 : decode prog_14_method_77_code 25 = .ok (.iadd, 1) := by decide +kernel
theorem d_Md_begins_26 : decode prog_14_method_77_code 26 = .ok (.putfield 312, 3) := by decide +kernel
theorem d_Md_begins_29 : decode prog_14_method_77_code 29 = .ok (.return_, 1) := by decide +kernel
theorem d_Md_waitsAs_0 : decode prog_14_method_78_code 0 = .ok (.iload_n 1, 1) := by decide +kernel
theorem d_Md_waitsAs_1 : decode prog_14_method_78_code 1 = .ok (.iconst 1, 1) := by decide +kernel
theorem d_Md_waitsAs_2 : decode prog_14_method_78_code 2 = .ok (.if_icmp .eq 14, 3) := by decide +kernel
theorem d_Md_waitsAs_5 : decode prog_14_method_78_code 5 = .ok (.iload_n 1, 1) := by decide +kernel
theorem d_Md_waitsAs_6 : decode prog_14_method_78_code 6 = .ok (.iconst 4, 1) := by decide +kernel
theorem d_Md_waitsAs_7 : decode prog_14_method_78_code 7 = .ok (.if_icmp .eq 9, 3) := by decide +kernel
theorem d_Md_waitsAs_10 : decode prog_14_method_78_code 10 = .ok (.iload_n 1, 1) := by decide +kernel
theorem d_Md_waitsAs_11 : decode prog_14_method_78_code 11 = .ok (.bipush 7, 2) := by decide +kernel
theorem d_Md_waitsAs_13 : decode prog_14_method_78_code 13 = .ok (.if_icmp .ne 18, 3) := by decide +kernel
theorem d_Md_waitsAs_16 : decode prog_14_method_78_code 16 = .ok (.aload_n 0, 1) := by decide +kernel
theorem d_Md_waitsAs_17 : decode prog_14_method_78_code 17 = .ok (.bipush 20, 2) := by decide +kernel
theorem d_Md_waitsAs_19 : decode prog_14_method_78_code 19 = .ok (.invokevirtual 315, 3) := by decide +kernel
theorem d_Md_waitsAs_22 : decode prog_14_method_78_code 22 = .ok (.aload_n 0, 1) := by decide +kernel
theorem d_Md_waitsAs_23 : decode prog_14_method_78_code 23 = .ok (.iconst 0, 1) := by decide +kernel
theorem d_Md_waitsAs_24 : decode prog_14_method_78_code 24 = .ok (.iload_n 2, 1) := by decide +kernel
theorem d_Md_waitsAs_25 : decode prog_14_method_78_code 25 = .ok (.invokevirtual 318, 3) := by decide +kernel
theorem d_Md_waitsAs_28 : decode prog_14_method_78_code 28 = .ok (.iconst 3, 1) := by decide +kernel
theorem d_Md_waitsAs_29 : decode prog_14_method_78_code 29 = .ok (.iadd, 1) := by decide +kernel
theorem d_Md_waitsAs_30 : decode prog_14_method_78_code 30 = .ok (.ireturn, 1) := by decide +kernel
theorem d_Md_waitsAs_31 : decode prog_14_method_78_code 31 = .ok (.iload_n 1, 1) := by decide +kernel
theorem d_Md_waitsAs_32 : decode prog_14_method_78_code 32 = .ok (.bipush 6, 2) := by decide +kernel
theorem d_Md_waitsAs_34 : decode prog_14_method_78_code 34 = .ok (.if_icmp .ne 18, 3) := by decide +kernel
theorem d_Md_waitsAs_37 : decode prog_14_method_78_code 37 = .ok (.aload_n 0, 1) := by decide +kernel
theorem d_Md_waitsAs_38 : decode prog_14_method_78_code 38 = .ok (.bipush 70, 2) := by decide +kernel
theorem d_Md_waitsAs_40 : decode prog_14_method_78_code 40 = .ok (.invokevirtual 315, 3) := by decide +kernel
theorem d_Md_waitsAs_43 : decode prog_14_method_78_code 43 = .ok (.aload_n 0, 1) := by decide +kernel
theorem d_Md_waitsAs_44 : decode prog_14_method_78_code 44 = .ok (.iconst 0, 1) := by decide +kernel
theorem d_Md_waitsAs_45 : decode prog_14_method_78_code 45 = .ok (.iload_n 2, 1) := by decide +kernel
theorem d_Md_waitsAs_46 : decode prog_14_method_78_code 46 = .ok (.invokevirtual 318, 3) := by decide +kernel
theorem d_Md_waitsAs_49 : decode prog_14_method_78_code 49 = .ok (.iconst 2, 1) := by decide +kernel
theorem d_Md_waitsAs_50 : decode prog_14_method_78_code 50 = .ok (.imul, 1) := by decide +kernel
theorem d_Md_waitsAs_51 : decode prog_14_method_78_code 51 = .ok (.ireturn, 1) := by decide +kernel
theorem d_Md_waitsAs_52 : decode prog_14_method_78_code 52 = .ok (.aload_n 0, 1) := by decide +kernel
theorem d_Md_waitsAs_53 : decode prog_14_method_78_code 53 = .ok (.iconst 1, 1) := by decide +kernel
theorem d_Md_waitsAs_54 : decode prog_14_method_78_code 54 = .ok (.invokevirtual 315, 3) := by decide +kernel
theorem d_Md_waitsAs_57 : decode prog_14_method_78_code 57 = .ok (.iload_n 2, 1) := by decide +kernel
theorem d_Md_waitsAs_58 : decode prog_14_method_78_code 58 = .ok (.aload_n 0, 1) := by decide +kernel
theorem d_Md_waitsAs_59 : decode prog_14_method_78_code 59 = .ok (.getfield 321, 3) := by decide +kernel
theorem d_Md_waitsAs_62 : decode prog_14_method_78_code 62 = .ok (.iadd, 1) := by decide +kernel
theorem d_Md_waitsAs_63 : decode prog_14_method_78_code 63 = .ok (.ireturn, 1) := by decide +kernel
theorem d_Md_countsAs_0 : decode prog_14_method_79_code 0 = .ok (.iload_n 1, 1) := by decide +kernel
theorem d_Md_countsAs_1 : decode prog_14_method_79_code 1 = .ok (.iconst 3, 1) := by decide +kernel
theorem d_Md_countsAs_2 : decode prog_14_method_79_code 2 = .ok (.if_icmp .eq 8, 3) := by decide +kernel
theorem d_Md_countsAs_5 : decode prog_14_method_79_code 5 = .ok (.iload_n 1, 1) := by decide +kernel
theorem d_Md_countsAs_6 : decode prog_14_method_79_code 6 = .ok (.iconst 5, 1) := by decide +kernel
theorem d_Md_countsAs_7 : decode prog_14_method_79_code 7 = .ok (.if_icmp .ne 18, 3) := by decide +kernel
theorem d_Md_countsAs_10 : decode prog_14_method_79_code 10 = .ok (.aload_n 0, 1) := by decide +kernel
theorem d_Md_countsAs_11 : decode prog_14_method_79_code 11 = .ok (.bipush 41, 2) := by decide +kernel
theorem d_Md_countsAs_13 : decode prog_14_method_79_code 13 = .ok (.invokevirtual 315, 3) := by decide +kernel
theorem d_Md_countsAs_16 : decode prog_14_method_79_code 16 = .ok (.aload_n 0, 1) := by decide +kernel
theorem d_Md_countsAs_17 : decode prog_14_method_79_code 17 = .ok (.iconst 2, 1) := by decide +kernel
theorem d_Md_countsAs_18 : decode prog_14_method_79_code 18 = .ok (.iload_n 2, 1) := by decide +kernel
theorem d_Md_countsAs_19 : decode prog_14_method_79_code 19 = .ok (.iconst 1, 1) := by decide +kernel
theorem d_Md_countsAs_20 : decode prog_14_method_79_code 20 = .ok (.iadd, 1) := by decide +kernel
theorem d_Md_countsAs_21 : decode prog_14_method_79_code 21 = .ok (.invokevirtual 324, 3) := by decide +kernel
theorem d_Md_countsAs_24 : decode prog_14_method_79_code 24 = .ok (.ireturn, 1) := by decide +kernel
theorem d_Md_countsAs_25 : decode prog_14_method_79_code 25 = .ok (.iload_n 1, 1) := by decide +kernel
theorem d_Md_countsAs_26 : decode prog_14_method_79_code 26 = .ok (.iconst 2, 1) := by decide +kernel
theorem d_Md_countsAs_27 : decode prog_14_method_79_code 27 = .ok (.if_icmp .ne 17, 3) := by decide +kernel
theorem d_Md_countsAs_30 : decode prog_14_method_79_code 30 = .ok (.aload_n 0, 1) := by decide +kernel
theorem d_Md_countsAs_31 : decode prog_14_method_79_code 31 = .ok (.bipush 30, 2) := by decide +kernel
theorem d_Md_countsAs_33 : decode prog_14_method_79_code 33 = .ok (.invokevirtual 315, 3) := by decide +kernel
theorem d_Md_countsAs_36 : decode prog_14_method_79_code 36 = .ok (.aload_n 0, 1) := by decide +kernel
theorem d_Md_countsAs_37 : decode prog_14_method_79_code 37 = .ok (.iconst 0, 1) := by decide +kernel
theorem d_Md_countsAs_38 : decode prog_14_method_79_code 38 = .ok (.iload_n 2, 1) := by decide +kernel
theorem d_Md_countsAs_39 : decode prog_14_method_79_code 39 = .ok (.invokevirtual 324, 3) := by decide +kernel
theorem d_Md_countsAs_42 : decode prog_14_method_79_code 42 = .ok (.ineg, 1) := by decide +kernel
theorem d_Md_countsAs_43 : decode prog_14_method_79_code 43 = .ok (.ireturn, 1) := by decide +kernel
theorem d_Md_countsAs_44 : decode prog_14_method_79_code 44 = .ok (.iload_n 1, 1) := by decide +kernel
theorem d_Md_countsAs_45 : decode prog_14_method_79_code 45 = .ok (.bipush 7, 2) := by decide +kernel
theorem d_Md_countsAs_47 : decode prog_14_method_79_code 47 = .ok (.if_icmp .ne 28, 3) := by decide +kernel
theorem d_Md_countsAs_50 : decode prog_14_method_79_code 50 = .ok (.aload_n 0, 1) := by decide +kernel
theorem d_Md_countsAs_51 : decode prog_14_method_79_code 51 = .ok (.bipush 80, 2) := by decide +kernel
theorem d_Md_countsAs_53 : decode prog_14_method_79_code 53 = .ok (.invokevirtual 315, 3) := by decide +kernel
theorem d_Md_countsAs_56 : decode prog_14_method_79_code 56 = .ok (.aload_n 0, 1) := by decide +kernel
theorem d_Md_countsAs_57 : decode prog_14_method_79_code 57 = .ok (.iconst 4, 1) := by decide +kernel
theorem d_Md_countsAs_58 : decode prog_14_method_79_code 58 = .ok (.iload_n 2, 1) := by decide +kernel
theorem d_Md_countsAs_59 : decode prog_14_method_79_code 59 = .ok (.invokevirtual 324, 3) := by decide +kernel
theorem d_Md_countsAs_62 : decode prog_14_method_79_code 62 = .ok (.istore_n 3, 1) := by decide +kernel
theorem d_Md_countsAs_63 : decode prog_14_method_79_code 63 = .ok (.iload_n 3, 1) := by decide +kernel
theorem d_Md_countsAs_64 : decode prog_14_method_79_code 64 = .ok (.aload_n 0, 1) := by decide +kernel
theorem d_Md_countsAs_65 : decode prog_14_method_79_code 65 = .ok (.aload_n 0, 1) := by decide +kernel
theorem d_Md_countsAs_66 : decode prog_14_method_79_code 66 = .ok (.getfield 327, 3) := by decide +kernel
theorem d_Md_countsAs_69 : decode prog_14_method_79_code 69 = .ok (.iconst 2, 1) := by decide +kernel
theorem d_Md_countsAs_70 : decode prog_14_method_79_code 70 = .ok (.invokevirtual 330, 3) := by decide +kernel
theorem d_Md_countsAs_73 : decode prog_14_method_79_code 73 = .ok (.iadd, 1) := by decide +kernel
theorem d_Md_countsAs_74 : decode prog_14_method_79_code 74 = .ok (.ireturn, 1) := by decide +kernel
theorem d_Md_countsAs_75 : decode prog_14_method_79_code 75 = .ok (.aload_n 0, 1) := by decide +kernel
theorem d_Md_countsAs_76 : decode prog_14_method_79_code 76 = .ok (.bipush 10, 2) := by decide +kernel
theorem d_Md_countsAs_78 : decode prog_14_method_79_code 78 = .ok (.invokevirtual 315, 3) := by decide +kernel
theorem d_Md_countsAs_81 : decode prog_14_method_79_code 81 = .ok (.aload_n 0, 1) := by decide +kernel
theorem d_Md_countsAs_82 : decode prog_14_method_79_code 82 = .ok (.aload_n 0, 1) := by decide +kernel
theorem d_Md_countsAs_83 : decode prog_14_method_79_code 83 = .ok (.getfield 327, 3) := by decide +kernel
theorem d_Md_countsAs_86 : decode prog_14_method_79_code 86 = .ok (.iload_n 2, 1) := by decide +kernel
theorem d_Md_countsAs_87 : decode prog_14_method_79_code 87 = .ok (.invokevirtual 318, 3) := by decide +kernel
theorem d_Md_countsAs_90 : decode prog_14_method_79_code 90 = .ok (.iconst 2, 1) := by decide +kernel
theorem d_Md_countsAs_91 : decode prog_14_method_79_code 91 = .ok (.imul, 1) := by decide +kernel
theorem d_Md_countsAs_92 : decode prog_14_method_79_code 92 = .ok (.ireturn, 1) := by decide +kernel
theorem d_Md_opensAs_0 : decode prog_14_method_80_code 0 = .ok (.iload_n 1, 1) := by decide +kernel
theorem d_Md_opensAs_1 : decode prog_14_method_80_code 1 = .ok (.iconst 3, 1) := by decide +kernel
theorem d_Md_opensAs_2 : decode prog_14_method_80_code 2 = .ok (.if_icmp .eq 8, 3) := by decide +kernel
theorem d_Md_opensAs_5 : decode prog_14_method_80_code 5 = .ok (.iload_n 1, 1) := by decide +kernel
theorem d_Md_opensAs_6 : decode prog_14_method_80_code 6 = .ok (.iconst 5, 1) := by decide +kernel
theorem d_Md_opensAs_7 : decode prog_14_method_80_code 7 = .ok (.if_icmp .ne 18, 3) := by decide +kernel
theorem d_Md_opensAs_10 : decode prog_14_method_80_code 10 = .ok (.aload_n 0, 1) := by decide +kernel
theorem d_Md_opensAs_11 : decode prog_14_method_80_code 11 = .ok (.bipush 40, 2) := by decide +kernel
theorem d_Md_opensAs_13 : decode prog_14_method_80_code 13 = .ok (.invokevirtual 315, 3) := by decide +kernel
theorem d_Md_opensAs_16 : decode prog_14_method_80_code 16 = .ok (.aload_n 0, 1) := by decide +kernel
theorem d_Md_opensAs_17 : decode prog_14_method_80_code 17 = .ok (.iconst 2, 1) := by decide +kernel
theorem d_Md_opensAs_18 : decode prog_14_method_80_code 18 = .ok (.iload_n 2, 1) := by decide +kernel
theorem d_Md_opensAs_19 : decode prog_14_method_80_code 19 = .ok (.invokevirtual 330, 3) := by decide +kernel
theorem d_Md_opensAs_22 : decode prog_14_method_80_code 22 = .ok (.iconst 3, 1) := by decide +kernel
theorem d_Md_opensAs_23 : decode prog_14_method_80_code 23 = .ok (.imul, 1) := by decide +kernel
theorem d_Md_opensAs_24 : decode prog_14_method_80_code 24 = .ok (.ireturn, 1) := by decide +kernel
theorem d_Md_opensAs_25 : decode prog_14_method_80_code 25 = .ok (.iload_n 1, 1) := by decide +kernel
theorem d_Md_opensAs_26 : decode prog_14_method_80_code 26 = .ok (.iconst 4, 1) := by decide +kernel
theorem d_Md_opensAs_27 : decode prog_14_method_80_code 27 = .ok (.if_icmp .eq 9, 3) := by decide +kernel
theorem d_Md_opensAs_30 : decode prog_14_method_80_code 30 = .ok (.iload_n 1, 1) := by decide +kernel
theorem d_Md_opensAs_31 : decode prog_14_method_80_code 31 = .ok (.bipush 7, 2) := by decide +kernel
theorem d_Md_opensAs_33 : decode prog_14_method_80_code 33 = .ok (.if_icmp .ne 28, 3) := by decide +kernel
theorem d_Md_opensAs_36 : decode prog_14_method_80_code 36 = .ok (.aload_n 0, 1) := by decide +kernel
theorem d_Md_opensAs_37 : decode prog_14_method_80_code 37 = .ok (.bipush 50, 2) := by decide +kernel
theorem d_Md_opensAs_39 : decode prog_14_method_80_code 39 = .ok (.invokevirtual 315, 3) := by decide +kernel
theorem d_Md_opensAs_42 : decode prog_14_method_80_code 42 = .ok (.aload_n 0, 1) := by decide +kernel
theorem d_Md_opensAs_43 : decode prog_14_method_80_code 43 = .ok (.iconst 1, 1) := by decide +kernel
theorem d_Md_opensAs_44 : decode prog_14_method_80_code 44 = .ok (.iload_n 2, 1) := by decide +kernel
theorem d_Md_opensAs_45 : decode prog_14_method_80_code 45 = .ok (.invokevirtual 330, 3) := by decide +kernel
theorem d_Md_opensAs_48 : decode prog_14_method_80_code 48 = .ok (.istore_n 3, 1) := by decide +kernel
theorem d_Md_opensAs_49 : decode prog_14_method_80_code 49 = .ok (.iload_n 3, 1) := by decide +kernel
theorem d_Md_opensAs_50 : decode prog_14_method_80_code 50 = .ok (.aload_n 0, 1) := by decide +kernel
theorem d_Md_opensAs_51 : decode prog_14_method_80_code 51 = .ok (.aload_n 0, 1) := by decide +kernel
theorem d_Md_opensAs_52 : decode prog_14_method_80_code 52 = .ok (.getfield 327, 3) := by decide +kernel
theorem d_Md_opensAs_55 : decode prog_14_method_80_code 55 = .ok (.iconst 2, 1) := by decide +kernel
theorem d_Md_opensAs_56 : decode prog_14_method_80_code 56 = .ok (.invokevirtual 318, 3) := by decide +kernel
theorem d_Md_opensAs_59 : decode prog_14_method_80_code 59 = .ok (.isub, 1) := by decide +kernel
theorem d_Md_opensAs_60 : decode prog_14_method_80_code 60 = .ok (.ireturn, 1) := by decide +kernel
theorem d_Md_opensAs_61 : decode prog_14_method_80_code 61 = .ok (.aload_n 0, 1) := by decide +kernel
theorem d_Md_opensAs_62 : decode prog_14_method_80_code 62 = .ok (.bipush 11, 2) := by decide +kernel
theorem d_Md_opensAs_64 : decode prog_14_method_80_code 64 = .ok (.invokevirtual 315, 3) := by decide +kernel
theorem d_Md_opensAs_67 : decode prog_14_method_80_code 67 = .ok (.iload_n 2, 1) := by decide +kernel
theorem d_Md_opensAs_68 : decode prog_14_method_80_code 68 = .ok (.aload_n 0, 1) := by decide +kernel
theorem d_Md_opensAs_69 : decode prog_14_method_80_code 69 = .ok (.getfield 321, 3) := by decide +kernel
theorem d_Md_opensAs_72 : decode prog_14_method_80_code 72 = .ok (.ixor, 1) := by decide +kernel
theorem d_Md_opensAs_73 : decode prog_14_method_80_code 73 = .ok (.ireturn, 1) := by decide +kernel
theorem d_Md_tellsAs_0 : decode prog_14_method_81_code 0 = .ok (.iload_n 1, 1) := by decide +kernel
theorem d_Md_tellsAs_1 : decode prog_14_method_81_code 1 = .ok (.iconst 5, 1) := by decide +kernel
theorem d_Md_tellsAs_2 : decode prog_14_method_81_code 2 = .ok (.if_icmp .ne 18, 3) := by decide +kernel
theorem d_Md_tellsAs_5 : decode prog_14_method_81_code 5 = .ok (.aload_n 0, 1) := by decide +kernel
theorem d_Md_tellsAs_6 : decode prog_14_method_81_code 6 = .ok (.bipush 60, 2) := by decide +kernel
theorem d_Md_tellsAs_8 : decode prog_14_method_81_code 8 = .ok (.invokevirtual 315, 3) := by decide +kernel
theorem d_Md_tellsAs_11 : decode prog_14_method_81_code 11 = .ok (.aload_n 0, 1) := by decide +kernel
theorem d_Md_tellsAs_12 : decode prog_14_method_81_code 12 = .ok (.iconst 3, 1) := by decide +kernel
theorem d_Md_tellsAs_13 : decode prog_14_method_81_code 13 = .ok (.iload_n 2, 1) := by decide +kernel
theorem d_Md_tellsAs_14 : decode prog_14_method_81_code 14 = .ok (.invokevirtual 333, 3) := by decide +kernel
theorem d_Md_tellsAs_17 : decode prog_14_method_81_code 17 = .ok (.iconst 5, 1) := by decide +kernel
theorem d_Md_tellsAs_18 : decode prog_14_method_81_code 18 = .ok (.ixor, 1) := by decide +kernel
theorem d_Md_tellsAs_19 : decode prog_14_method_81_code 19 = .ok (.ireturn, 1) := by decide +kernel
theorem d_Md_tellsAs_20 : decode prog_14_method_81_code 20 = .ok (.iload_n 1, 1) := by decide +kernel
theorem d_Md_tellsAs_21 : decode prog_14_method_81_code 21 = .ok (.bipush 7, 2) := by decide +kernel
theorem d_Md_tellsAs_23 : decode prog_14_method_81_code 23 = .ok (.if_icmp .ne 18, 3) := by decide +kernel
theorem d_Md_tellsAs_26 : decode prog_14_method_81_code 26 = .ok (.aload_n 0, 1) := by decide +kernel
theorem d_Md_tellsAs_27 : decode prog_14_method_81_code 27 = .ok (.bipush 81, 2) := by decide +kernel
theorem d_Md_tellsAs_29 : decode prog_14_method_81_code 29 = .ok (.invokevirtual 315, 3) := by decide +kernel
theorem d_Md_tellsAs_32 : decode prog_14_method_81_code 32 = .ok (.aload_n 0, 1) := by decide +kernel
theorem d_Md_tellsAs_33 : decode prog_14_method_81_code 33 = .ok (.iconst 4, 1) := by decide +kernel
theorem d_Md_tellsAs_34 : decode prog_14_method_81_code 34 = .ok (.iload_n 2, 1) := by decide +kernel
theorem d_Md_tellsAs_35 : decode prog_14_method_81_code 35 = .ok (.invokevirtual 333, 3) := by decide +kernel
theorem d_Md_tellsAs_38 : decode prog_14_method_81_code 38 = .ok (.iconst 1, 1) := by decide +kernel
theorem d_Md_tellsAs_39 : decode prog_14_method_81_code 39 = .ok (.isub, 1) := by decide +kernel
theorem d_Md_tellsAs_40 : decode prog_14_method_81_code 40 = .ok (.ireturn, 1) := by decide +kernel
theorem d_Md_tellsAs_41 : decode prog_14_method_81_code 41 = .ok (.aload_n 0, 1) := by decide +kernel
theorem d_Md_tellsAs_42 : decode prog_14_method_81_code 42 = .ok (.iconst 2, 1) := by decide +kernel
theorem d_Md_tellsAs_43 : decode prog_14_method_81_code 43 = .ok (.invokevirtual 315, 3) := by decide +kernel
theorem d_Md_tellsAs_46 : decode prog_14_method_81_code 46 = .ok (.aload_n 0, 1) := by decide +kernel
theorem d_Md_tellsAs_47 : decode prog_14_method_81_code 47 = .ok (.aload_n 0, 1) := by decide +kernel
theorem d_Md_tellsAs_48 : decode prog_14_method_81_code 48 = .ok (.getfield 327, 3) := by decide +kernel
theorem d_Md_tellsAs_51 : decode prog_14_method_81_code 51 = .ok (.iload_n 2, 1) := by decide +kernel
theorem d_Md_tellsAs_52 : decode prog_14_method_81_code 52 = .ok (.invokevirtual 324, 3) := by decide +kernel
theorem d_Md_tellsAs_55 : decode prog_14_method_81_code 55 = .ok (.istore_n 3, 1) := by decide +kernel
theorem d_Md_tellsAs_56 : decode prog_14_method_81_code 56 = .ok (.iload_n 3, 1) := by decide +kernel
theorem d_Md_tellsAs_57 : decode prog_14_method_81_code 57 = .ok (.aload_n 0, 1) := by decide +kernel
theorem d_Md_tellsAs_58 : decode prog_14_method_81_code 58 = .ok (.aload_n 0, 1) := by decide +kernel
theorem d_Md_tellsAs_59 : decode prog_14_method_81_code 59 = .ok (.getfield 327, 3) := by decide +kernel
theorem d_Md_tellsAs_62 : decode prog_14_method_81_code 62 = .ok (.iconst 1, 1) := by decide +kernel
theorem d_Md_tellsAs_63 : decode prog_14_method_81_code 63 = .ok (.invokevirtual 330, 3) := by decide +kernel
theorem d_Md_tellsAs_66 : decode prog_14_method_81_code 66 = .ok (.isub, 1) := by decide +kernel
theorem d_Md_tellsAs_67 : decode prog_14_method_81_code 67 = .ok (.ireturn, 1) := by decide +kernel
theorem d_Md_act_0 : decode prog_14_method_82_code 0 = .ok (.aload_n 0, 1) := by decide +kernel
theorem d_Md_act_1 : decode prog_14_method_82_code 1 = .ok (.iconst 0, 1) := by decide +kernel
theorem d_Md_act_2 : decode prog_14_method_82_code 2 = .ok (.putfield 312, 3) := by decide +kernel
theorem d_Md_act_5 : decode prog_14_method_82_code 5 = .ok (.aload_n 0, 1) := by decide +kernel
theorem d_Md_act_6 : decode prog_14_method_82_code 6 = .ok (.iload_n 1, 1) := by decide +kernel
theorem d_Md_act_7 : decode prog_14_method_82_code 7 = .ok (.invokevirtual 336, 3) := by decide +kernel
theorem d_Md_act_10 : decode prog_14_method_82_code 10 = .ok (.ifCond .ne 5, 3) := by decide +kernel
theorem d_Md_act_13 : decode prog_14_method_82_code 13 = .ok (.iconst 0, 1) := by decide +kernel
theorem d_Md_act_14 : decode prog_14_method_82_code 14 = .ok (.ireturn, 1) := by decide +kernel
theorem d_Md_act_15 : decode prog_14_method_82_code 15 = .ok (.aload_n 0, 1) := by decide +kernel
theorem d_Md_act_16 : decode prog_14_method_82_code 16 = .ok (.aload_n 0, 1) := by decide +kernel
theorem d_Md_act_17 : decode prog_14_method_82_code 17 = .ok (.getfield 58, 3) := by decide +kernel
theorem d_Md_act_20 : decode prog_14_method_82_code 20 = .ok (.iload_n 1, 1) := by decide +kernel
theorem d_Md_act_21 : decode prog_14_method_82_code 21 = .ok (.iaload, 1) := by decide +kernel
theorem d_Md_act_22 : decode prog_14_method_82_code 22 = .ok (.putfield 327, 3) := by decide +kernel
theorem d_Md_act_25 : decode prog_14_method_82_code 25 = .ok (.aload_n 0, 1) := by decide +kernel
theorem d_Md_act_26 : decode prog_14_method_82_code 26 = .ok (.iload_n 1, 1) := by decide +kernel
theorem d_Md_act_27 : decode prog_14_method_82_code 27 = .ok (.putfield 321, 3) := by decide +kernel
theorem d_Md_act_30 : decode prog_14_method_82_code 30 = .ok (.iload_n 2, 1) := by decide +kernel
theorem d_Md_act_31 : decode prog_14_method_82_code 31 = .ok (.tableswitch 69 0 3 #[29, 39, 49, 59], 29) := by decide +kernel
theorem d_Md_act_60 : decode prog_14_method_82_code 60 = .ok (.aload_n 0, 1) := by decide +kernel
theorem d_Md_act_61 : decode prog_14_method_82_code 61 = .ok (.aload_n 0, 1) := by decide +kernel
theorem d_Md_act_62 : decode prog_14_method_82_code 62 = .ok (.getfield 327, 3) := by decide +kernel
theorem d_Md_act_65 : decode prog_14_method_82_code 65 = .ok (.iload_n 3, 1) := by decide +kernel
theorem d_Md_act_66 : decode prog_14_method_82_code 66 = .ok (.invokevirtual 318, 3) := by decide +kernel
theorem d_Md_act_69 : decode prog_14_method_82_code 69 = .ok (.ireturn, 1) := by decide +kernel
theorem d_Md_act_70 : decode prog_14_method_82_code 70 = .ok (.aload_n 0, 1) := by decide +kernel
theorem d_Md_act_71 : decode prog_14_method_82_code 71 = .ok (.aload_n 0, 1) := by decide +kernel
theorem d_Md_act_72 : decode prog_14_method_82_code 72 = .ok (.getfield 327, 3) := by decide +kernel
theorem d_Md_act_75 : decode prog_14_method_82_code 75 = .ok (.iload_n 3, 1) := by decide +kernel
theorem d_Md_act_76 : decode prog_14_method_82_code 76 = .ok (.invokevirtual 324, 3) := by decide +kernel
theorem d_Md_act_79 : decode prog_14_method_82_code 79 = .ok (.ireturn, 1) := by decide +kernel
theorem d_Md_act_80 : decode prog_14_method_82_code 80 = .ok (.aload_n 0, 1) := by decide +kernel
theorem d_Md_act_81 : decode prog_14_method_82_code 81 = .ok (.aload_n 0, 1) := by decide +kernel
theorem d_Md_act_82 : decode prog_14_method_82_code 82 = .ok (.getfield 327, 3) := by decide +kernel
theorem d_Md_act_85 : decode prog_14_method_82_code 85 = .ok (.iload_n 3, 1) := by decide +kernel
theorem d_Md_act_86 : decode prog_14_method_82_code 86 = .ok (.invokevirtual 330, 3) := by decide +kernel
theorem d_Md_act_89 : decode prog_14_method_82_code 89 = .ok (.ireturn, 1) := by decide +kernel
theorem d_Md_act_90 : decode prog_14_method_82_code 90 = .ok (.aload_n 0, 1) := by decide +kernel
theorem d_Md_act_91 : decode prog_14_method_82_code 91 = .ok (.aload_n 0, 1) := by decide +kernel
theorem d_Md_act_92 : decode prog_14_method_82_code 92 = .ok (.getfield 327, 3) := by decide +kernel
theorem d_Md_act_95 : decode prog_14_method_82_code 95 = .ok (.iload_n 3, 1) := by decide +kernel
theorem d_Md_act_96 : decode prog_14_method_82_code 96 = .ok (.invokevirtual 333, 3) := by decide +kernel
theorem d_Md_act_99 : decode prog_14_method_82_code 99 = .ok (.ireturn, 1) := by decide +kernel
theorem d_Md_act_100 : decode prog_14_method_82_code 100 = .ok (.iconst 0, 1) := by decide +kernel
theorem d_Md_act_101 : decode prog_14_method_82_code 101 = .ok (.ireturn, 1) := by decide +kernel
theorem d_Md_trace_0 : decode prog_14_method_83_code 0 = .ok (.iload_n 1, 1) := by decide +kernel
theorem d_Md_trace_1 : decode prog_14_method_83_code 1 = .ok (.ifCond .lt 26, 3) := by decide +kernel
theorem d_Md_trace_4 : decode prog_14_method_83_code 4 = .ok (.iload_n 1, 1) := by decide +kernel
theorem d_Md_trace_5 : decode prog_14_method_83_code 5 = .ok (.aload_n 0, 1) := by decide +kernel
theorem d_Md_trace_6 : decode prog_14_method_83_code 6 = .ok (.getfield 312, 3) := by decide +kernel
theorem d_Md_trace_9 : decode prog_14_method_83_code 9 = .ok (.if_icmp .ge 18, 3) := by decide +kernel
theorem d_Md_trace_12 : decode prog_14_method_83_code 12 = .ok (.iload_n 1, 1) := by decide +kernel
theorem d_Md_trace_13 : decode prog_14_method_83_code 13 = .ok (.bipush 24, 2) := by decide +kernel
theorem d_Md_trace_15 : decode prog_14_method_83_code 15 = .ok (.if_icmp .ge 12, 3) := by decide +kernel
theorem d_Md_trace_18 : decode prog_14_method_83_code 18 = .ok (.aload_n 0, 1) := by decide +kernel
theorem d_Md_trace_19 : decode prog_14_method_83_code 19 = .ok (.getfield 61, 3) := by decide +kernel
theorem d_Md_trace_22 : decode prog_14_method_83_code 22 = .ok (.iload_n 1, 1) := by decide +kernel
theorem d_Md_trace_23 : decode prog_14_method_83_code 23 = .ok (.iaload, 1) := by decide +kernel
theorem d_Md_trace_24 : decode prog_14_method_83_code 24 = .ok (.goto 4, 3) := by decide +kernel
theorem d_Md_trace_27 : decode prog_14_method_83_code 27 = .ok (.iconst (-1), 1) := by decide +kernel
theorem d_Md_trace_28 : decode prog_14_method_83_code 28 = .ok (.ireturn, 1) := by decide +kernel
theorem d_Md_isShelf_0 : decode prog_14_method_84_code 0 = .ok (.iload_n 0, 1) := by decide +kernel
theorem d_Md_isShelf_1 : decode prog_14_method_84_code 1 = .ok (.i2l, 1) := by decide +kernel
theorem d_Md_isShelf_2 : decode prog_14_method_84_code 2 = .ok (.lconst 0, 1) := by decide +kernel
theorem d_Md_isShelf_3 : decode prog_14_method_84_code 3 = .ok (.ldc2_w 339, 3) := by decide +kernel
theorem d_Md_isShelf_6 : decode prog_14_method_84_code 6 = .ok (.invokestatic 89, 3) := by decide +kernel
theorem d_Md_isShelf_9 : decode prog_14_method_84_code 9 = .ok (.ireturn, 1) := by decide +kernel
theorem d_Md_keep_0 : decode prog_14_method_85_code 0 = .ok (.iload_n 1, 1) := by decide +kernel
theorem d_Md_keep_1 : decode prog_14_method_85_code 1 = .ok (.invokestatic 106, 3) := by decide +kernel
theorem d_Md_keep_4 : decode prog_14_method_85_code 4 = .ok (.ifCond .eq 16, 3) := by decide +kernel
theorem d_Md_keep_7 : decode prog_14_method_85_code 7 = .ok (.iload_n 2, 1) := by decide +kernel
theorem d_Md_keep_8 : decode prog_14_method_85_code 8 = .ok (.iconst (-1), 1) := by decide +kernel
theorem d_Md_keep_9 : decode prog_14_method_85_code 9 = .ok (.if_icmp .eq 13, 3) := by decide +kernel
theorem d_Md_keep_12 : decode prog_14_method_85_code 12 = .ok (.aload_n 0, 1) := by decide +kernel
theorem d_Md_keep_13 : decode prog_14_method_85_code 13 = .ok (.iload_n 2, 1) := by decide +kernel
theorem d_Md_keep_14 : decode prog_14_method_85_code 14 = .ok (.invokevirtual 336, 3) := by decide +kernel
theorem d_Md_keep_17 : decode prog_14_method_85_code 17 = .ok (.ifCond .ne 5, 3) := by decide +kernel
theorem d_Md_keep_20 : decode prog_14_method_85_code 20 = .ok (.iconst (-1), 1) := by decide +kernel
theorem d_Md_keep_21 : decode prog_14_method_85_code 21 = .ok (.ireturn, 1) := by decide +kernel
theorem d_Md_keep_22 : decode prog_14_method_85_code 22 = .ok (.aload_n 0, 1) := by decide +kernel
theorem d_Md_keep_23 : decode prog_14_method_85_code 23 = .ok (.getfield 64, 3) := by decide +kernel
theorem d_Md_keep_26 : decode prog_14_method_85_code 26 = .ok (.iload_n 1, 1) := by decide +kernel
theorem d_Md_keep_27 : decode prog_14_method_85_code 27 = .ok (.iload_n 2, 1) := by decide +kernel
theorem d_Md_keep_28 : decode prog_14_method_85_code 28 = .ok (.iastore, 1) := by decide +kernel
theorem d_Md_keep_29 : decode prog_14_method_85_code 29 = .ok (.aload_n 0, 1) := by decide +kernel
theorem d_Md_keep_30 : decode prog_14_method_85_code 30 = .ok (.getfield 67, 3) := by decide +kernel
theorem d_Md_keep_33 : decode prog_14_method_85_code 33 = .ok (.iload_n 1, 1) := by decide +kernel
theorem d_Md_keep_34 : decode prog_14_method_85_code 34 = .ok (.iconst 0, 1) := by decide +kernel
theorem d_Md_keep_35 : decode prog_14_method_85_code 35 = .ok (.iastore, 1) := by decide +kernel
theorem d_Md_keep_36 : decode prog_14_method_85_code 36 = .ok (.iconst 1, 1) := by decide +kernel
theorem d_Md_keep_37 : decode prog_14_method_85_code 37 = .ok (.ireturn, 1) := by decide +kernel
theorem d_Md_row_0 : decode prog_14_method_86_code 0 = .ok (.iload_n 1, 1) := by decide +kernel
theorem d_Md_row_1 : decode prog_14_method_86_code 1 = .ok (.invokestatic 106, 3) := by decide +kernel
theorem d_Md_row_4 : decode prog_14_method_86_code 4 = .ok (.ifCond .eq 21, 3) := by decide +kernel
theorem d_Md_row_7 : decode prog_14_method_86_code 7 = .ok (.iload_n 2, 1) := by decide +kernel
theorem d_Md_row_8 : decode prog_14_method_86_code 8 = .ok (.i2l, 1) := by decide +kernel
theorem d_Md_row_9 : decode prog_14_method_86_code 9 = .ok (.lconst 0, 1) := by decide +kernel
theorem d_Md_row_10 : decode prog_14_method_86_code 10 = .ok (.ldc2_w 118, 3) := by decide +kernel
theorem d_Md_row_13 : decode prog_14_method_86_code 13 = .ok (.invokestatic 89, 3) := by decide +kernel
theorem d_Md_row_16 : decode prog_14_method_86_code 16 = .ok (.ifCond .eq 9, 3) := by decide +kernel
theorem d_Md_row_19 : decode prog_14_method_86_code 19 = .ok (.iload_n 3, 1) := by decide +kernel
theorem d_Md_row_20 : decode prog_14_method_86_code 20 = .ok (.bipush 60, 2) := by decide +kernel
theorem d_Md_row_22 : decode prog_14_method_86_code 22 = .ok (.if_icmp .le 5, 3) := by decide +kernel
theorem d_Md_row_25 : decode prog_14_method_86_code 25 = .ok (.iconst (-1), 1) := by decide +kernel
theorem d_Md_row_26 : decode prog_14_method_86_code 26 = .ok (.ireturn, 1) := by decide +kernel
theorem d_Md_row_27 : decode prog_14_method_86_code 27 = .ok (.iload_n 3, 1) := by decide +kernel
theorem d_Md_row_28 : decode prog_14_method_86_code 28 = .ok (.ifCond .ge 6, 3) := by decide +kernel
theorem d_Md_row_31 : decode prog_14_method_86_code 31 = .ok (.bipush (-14), 2) := by decide +kernel
theorem d_Md_row_33 : decode prog_14_method_86_code 33 = .ok (.ireturn, 1) := by decide +kernel
theorem d_Md_row_34 : decode prog_14_method_86_code 34 = .ok (.aload_n 0, 1) := by decide +kernel
theorem d_Md_row_35 : decode prog_14_method_86_code 35 = .ok (.getfield 64, 3) := by decide +kernel
theorem d_Md_row_38 : decode prog_14_method_86_code 38 = .ok (.iload_n 1, 1) := by decide +kernel
theorem d_Md_row_39 : decode prog_14_method_86_code 39 = .ok (.bipush 50, 2) := by decide +kernel
theorem d_Md_row_41 : decode prog_14_method_86_code 41 = .ok (.iload_n 2, 1) := by decide +kernel
theorem d_Md_row_42 : decode prog_14_method_86_code 42 = .ok (.iadd, 1) := by decide +kernel
theorem d_Md_row_43 : decode prog_14_method_86_code 43 = .ok (.iastore, 1) := by decide +kernel
theorem d_Md_row_44 : decode prog_14_method_86_code 44 = .ok (.aload_n 0, 1) := by decide +kernel
theorem d_Md_row_45 : decode prog_14_method_86_code 45 = .ok (.getfield 67, 3) := by decide +kernel
theorem d_Md_row_48 : decode prog_14_method_86_code 48 = .ok (.iload_n 1, 1) := by decide +kernel
theorem d_Md_row_49 : decode prog_14_method_86_code 49 = .ok (.iload_n 3, 1) := by decide +kernel
theorem d_Md_row_50 : decode prog_14_method_86_code 50 = .ok (.iastore, 1) := by decide +kernel
theorem d_Md_row_51 : decode prog_14_method_86_code 51 = .ok (.bipush 60, 2) := by decide +kernel
theorem d_Md_row_53 : decode prog_14_method_86_code 53 = .ok (.iload_n 1, 1) := by decide +kernel
theorem d_Md_row_54 : decode prog_14_method_86_code 54 = .ok (.imul, 1) := by decide +kernel
theorem d_Md_row_55 : decode prog_14_method_86_code 55 = .ok (.istore 4, 2) := by decide +kernel
theorem d_Md_row_57 : decode prog_14_method_86_code 57 = .ok (.iload 4, 2) := by decide +kernel
theorem d_Md_row_59 : decode prog_14_method_86_code 59 = .ok (.bipush 60, 2) := by decide +kernel
theorem d_Md_row_61 : decode prog_14_method_86_code 61 = .ok (.iload_n 1, 1) := by decide +kernel
theorem d_Md_row_62 : decode prog_14_method_86_code 62 = .ok (.imul, 1) := by decide +kernel
theorem d_Md_row_63 : decode prog_14_method_86_code 63 = .ok (.bipush 60, 2) := by decide +kernel
theorem d_Md_row_65 : decode prog_14_method_86_code 65 = .ok (.iadd, 1) := by decide +kernel
theorem d_Md_row_66 : decode prog_14_method_86_code 66 = .ok (.if_icmp .ge 17, 3) := by decide +kernel
theorem d_Md_row_69 : decode prog_14_method_86_code 69 = .ok (.aload_n 0, 1) := by decide +kernel
theorem d_Md_row_70 : decode prog_14_method_86_code 70 = .ok (.getfield 70, 3) := by decide +kernel
theorem d_Md_row_73 : decode prog_14_method_86_code 73 = .ok (.iload 4, 2) := by decide +kernel
theorem d_Md_row_75 : decode prog_14_method_86_code 75 = .ok (.lconst 0, 1) := by decide +kernel
theorem d_Md_row_76 : decode prog_14_method_86_code 76 = .ok (.lastore, 1) := by decide +kernel
theorem d_Md_row_77 : decode prog_14_method_86_code 77 = .ok (.iinc 4 1, 3) := by decide +kernel
theorem d_Md_row_80 : decode prog_14_method_86_code 80 = .ok (.goto (-23), 3) := by decide +kernel
theorem d_Md_row_83 : decode prog_14_method_86_code 83 = .ok (.iconst 1, 1) := by decide +kernel
theorem d_Md_row_84 : decode prog_14_method_86_code 84 = .ok (.ireturn, 1) := by decide +kernel
theorem d_Md_refusal_0 : decode prog_14_method_87_code 0 = .ok (.iload_n 1, 1) := by decide +kernel
theorem d_Md_refusal_1 : decode prog_14_method_87_code 1 = .ok (.invokestatic 106, 3) := by decide +kernel
theorem d_Md_refusal_4 : decode prog_14_method_87_code 4 = .ok (.ifCond .ne 5, 3) := by decide +kernel
theorem d_Md_refusal_7 : decode prog_14_method_87_code 7 = .ok (.iconst (-1), 1) := by decide +kernel
theorem d_Md_refusal_8 : decode prog_14_method_87_code 8 = .ok (.ireturn, 1) := by decide +kernel
theorem d_Md_refusal_9 : decode prog_14_method_87_code 9 = .ok (.aload_n 0, 1) := by decide +kernel
theorem d_Md_refusal_10 : decode prog_14_method_87_code 10 = .ok (.getfield 64, 3) := by decide +kernel
theorem d_Md_refusal_13 : decode prog_14_method_87_code 13 = .ok (.iload_n 1, 1) := by decide +kernel
theorem d_Md_refusal_14 : decode prog_14_method_87_code 14 = .ok (.iaload, 1) := by decide +kernel
theorem d_Md_refusal_15 : decode prog_14_method_87_code 15 = .ok (.ifCond .ge 6, 3) := by decide +kernel
theorem d_Md_refusal_18 : decode prog_14_method_87_code 18 = .ok (.bipush (-11), 2) := by decide +kernel
theorem d_Md_refusal_20 : decode prog_14_method_87_code 20 = .ok (.ireturn, 1) := by decide +kernel
theorem d_Md_refusal_21 : decode prog_14_method_87_code 21 = .ok (.aload_n 0, 1) := by decide +kernel
theorem d_Md_refusal_22 : decode prog_14_method_87_code 22 = .ok (.getfield 64, 3) := by decide +kernel
theorem d_Md_refusal_25 : decode prog_14_method_87_code 25 = .ok (.iload_n 1, 1) := by decide +kernel
theorem d_Md_refusal_26 : decode prog_14_method_87_code 26 = .ok (.iaload, 1) := by decide +kernel
theorem d_Md_refusal_27 : decode prog_14_method_87_code 27 = .ok (.bipush 50, 2) := by decide +kernel
theorem d_Md_refusal_29 : decode prog_14_method_87_code 29 = .ok (.if_icmp .ge 6, 3) := by decide +kernel
theorem d_Md_refusal_32 : decode prog_14_method_87_code 32 = .ok (.bipush (-12), 2) := by decide +kernel
theorem d_Md_refusal_34 : decode prog_14_method_87_code 34 = .ok (.ireturn, 1) := by decide +kernel
theorem d_Md_refusal_35 : decode prog_14_method_87_code 35 = .ok (.iload_n 2, 1) := by decide +kernel
theorem d_Md_refusal_36 : decode prog_14_method_87_code 36 = .ok (.ifCond .lt 17, 3) := by decide +kernel
theorem d_Md_refusal_39 : decode prog_14_method_87_code 39 = .ok (.iload_n 2, 1) := by decide +kernel
theorem d_Md_refusal_40 : decode prog_14_method_87_code 40 = .ok (.aload_n 0, 1) := by decide +kernel
theorem d_Md_refusal_41 : decode prog_14_method_87_code 41 = .ok (.getfield 67, 3) := by decide +kernel
theorem d_Md_refusal_44 : decode prog_14_method_87_code 44 = .ok (.iload_n 1, 1) := by decide +kernel
theorem d_Md_refusal_45 : decode prog_14_method_87_code 45 = .ok (.iaload, 1) := by decide +kernel
theorem d_Md_refusal_46 : decode prog_14_method_87_code 46 = .ok (.if_icmp .ge 7, 3) := by decide +kernel
theorem d_Md_refusal_49 : decode prog_14_method_87_code 49 = .ok (.iconst 0, 1) := by decide +kernel
theorem d_Md_refusal_50 : decode prog_14_method_87_code 50 = .ok (.goto 5, 3) := by decide +kernel
theorem d_Md_refusal_53 : decode prog_14_method_87_code 53 = .ok (.bipush (-13), 2) := by decide +kernel
theorem d_Md_refusal_55 : decode prog_14_method_87_code 55 = .ok (.ireturn, 1) := by decide +kernel
theorem d_Md_asSort_0 : decode prog_14_method_88_code 0 = .ok (.iload_n 0, 1) := by decide +kernel
theorem d_Md_asSort_1 : decode prog_14_method_88_code 1 = .ok (.ifCond .ne 10, 3) := by decide +kernel
theorem d_Md_asSort_4 : decode prog_14_method_88_code 4 = .ok (.lload_n 1, 1) := by decide +kernel
theorem d_Md_asSort_5 : decode prog_14_method_88_code 5 = .ok (.l2i, 1) := by decide +kernel
theorem d_Md_asSort_6 : decode prog_14_method_88_code 6 = .ok (.i2b, 1) := by decide +kernel
theorem d_Md_asSort_7 : decode prog_14_method_88_code 7 = .ok (.i2l, 1) := by decide +kernel
theorem d_Md_asSort_8 : decode prog_14_method_88_code 8 = .ok (.goto 46, 3) := by decide +kernel
theorem d_Md_asSort_11 : decode prog_14_method_88_code 11 = .ok (.iload_n 0, 1) := by decide +kernel
theorem d_Md_asSort_12 : decode prog_14_method_88_code 12 = .ok (.iconst 1, 1) := by decide +kernel
theorem d_Md_asSort_13 : decode prog_14_method_88_code 13 = .ok (.if_icmp .ne 10, 3) := by decide +kernel
theorem d_Md_asSort_16 : decode prog_14_method_88_code 16 = .ok (.lload_n 1, 1) := by decide +kernel
theorem d_Md_asSort_17 : decode prog_14_method_88_code 17 = .ok (.l2i, 1) := by decide +kernel
theorem d_Md_asSort_18 : decode prog_14_method_88_code 18 = .ok (.i2s, 1) := by decide +kernel
theorem d_Md_asSort_19 : decode prog_14_method_88_code 19 = .ok (.i2l, 1) := by decide +kernel
theorem d_Md_asSort_20 : decode prog_14_method_88_code 20 = .ok (.goto 34, 3) := by decide +kernel
theorem d_Md_asSort_23 : decode prog_14_method_88_code 23 = .ok (.iload_n 0, 1) := by decide +kernel
theorem d_Md_asSort_24 : decode prog_14_method_88_code 24 = .ok (.iconst 2, 1) := by decide +kernel
theorem d_Md_asSort_25 : decode prog_14_method_88_code 25 = .ok (.if_icmp .ne 9, 3) := by decide +kernel
theorem d_Md_asSort_28 : decode prog_14_method_88_code 28 = .ok (.lload_n 1, 1) := by decide +kernel
theorem d_Md_asSort_29 : decode prog_14_method_88_code 29 = .ok (.l2i, 1) := by decide +kernel
theorem d_Md_asSort_30 : decode prog_14_method_88_code 30 = .ok (.i2l, 1) := by decide +kernel
theorem d_Md_asSort_31 : decode prog_14_method_88_code 31 = .ok (.goto 23, 3) := by decide +kernel
theorem d_Md_asSort_34 : decode prog_14_method_88_code 34 = .ok (.iload_n 0, 1) := by decide +kernel
theorem d_Md_asSort_35 : decode prog_14_method_88_code 35 = .ok (.iconst 4, 1) := by decide +kernel
theorem d_Md_asSort_36 : decode prog_14_method_88_code 36 = .ok (.if_icmp .ne 17, 3) := by decide +kernel
theorem d_Md_asSort_39 : decode prog_14_method_88_code 39 = .ok (.lload_n 1, 1) := by decide +kernel
theorem d_Md_asSort_40 : decode prog_14_method_88_code 40 = .ok (.lconst 0, 1) := by decide +kernel
theorem d_Md_asSort_41 : decode prog_14_method_88_code 41 = .ok (.lcmp, 1) := by decide +kernel
theorem d_Md_asSort_42 : decode prog_14_method_88_code 42 = .ok (.ifCond .eq 7, 3) := by decide +kernel
theorem d_Md_asSort_45 : decode prog_14_method_88_code 45 = .ok (.lconst 1, 1) := by decide +kernel
theorem d_Md_asSort_46 : decode prog_14_method_88_code 46 = .ok (.goto 8, 3) := by decide +kernel
theorem d_Md_asSort_49 : decode prog_14_method_88_code 49 = .ok (.lconst 0, 1) := by decide +kernel
theorem d_Md_asSort_50 : decode prog_14_method_88_code 50 = .ok (.goto 4, 3) := by decide +kernel
theorem d_Md_asSort_53 : decode prog_14_method_88_code 53 = .ok (.lload_n 1, 1) := by decide +kernel
theorem d_Md_asSort_54 : decode prog_14_method_88_code 54 = .ok (.lreturn, 1) := by decide +kernel
theorem d_Md_put_0 : decode prog_14_method_89_code 0 = .ok (.aload_n 0, 1) := by decide +kernel
theorem d_Md_put_1 : decode prog_14_method_89_code 1 = .ok (.iload_n 1, 1) := by decide +kernel
theorem d_Md_put_2 : decode prog_14_method_89_code 2 = .ok (.iload_n 2, 1) := by decide +kernel
theorem d_Md_put_3 : decode prog_14_method_89_code 3 = .ok (.invokevirtual 341, 3) := by decide +kernel
theorem d_Md_put_6 : decode prog_14_method_89_code 6 = .ok (.istore 5, 2) := by decide +kernel
theorem d_Md_put_8 : decode prog_14_method_89_code 8 = .ok (.iload 5, 2) := by decide +kernel
theorem d_Md_put_10 : decode prog_14_method_89_code 10 = .ok (.ifCond .ne 27, 3) := by decide +kernel
theorem d_Md_put_13 : decode prog_14_method_89_code 13 = .ok (.aload_n 0, 1) := by decide +kernel
theorem d_Md_put_14 : decode prog_14_method_89_code 14 = .ok (.getfield 70, 3) := by decide +kernel
theorem d_Md_put_17 : decode prog_14_method_89_code 17 = .ok (.bipush 60, 2) := by decide +kernel
theorem d_Md_put_19 : decode prog_14_method_89_code 19 = .ok (.iload_n 1, 1) := by decide +kernel
theorem d_Md_put_20 : decode prog_14_method_89_code 20 = .ok (.imul, 1) := by decide +kernel
theorem d_Md_put_21 : decode prog_14_method_89_code 21 = .ok (.iload_n 2, 1) := by decide +kernel
theorem d_Md_put_22 : decode prog_14_method_89_code 22 = .ok (.iadd, 1) := by decide +kernel
theorem d_Md_put_23 : decode prog_14_method_89_code 23 = .ok (.aload_n 0, 1) := by decide +kernel
theorem d_Md_put_24 : decode prog_14_method_89_code 24 = .ok (.getfield 64, 3) := by decide +kernel
theorem d_Md_put_27 : decode prog_14_method_89_code 27 = .ok (.iload_n 1, 1) := by decide +kernel
theorem d_Md_put_28 : decode prog_14_method_89_code 28 = .ok (.iaload, 1) := by decide +kernel
theorem d_Md_put_29 : decode prog_14_method_89_code 29 = .ok (.bipush 50, 2) := by decide +kernel
theorem d_Md_put_31 : decode prog_14_method_89_code 31 = .ok (.isub, 1) := by decide +kernel
theorem d_Md_put_32 : decode prog_14_method_89_code 32 = .ok (.lload_n 3, 1) := by decide +kernel
theorem d_Md_put_33 : decode prog_14_method_89_code 33 = .ok (.invokestatic 344, 3) := by decide +kernel
theorem d_Md_put_36 : decode prog_14_method_89_code 36 = .ok (.lastore, 1) := by decide +kernel
theorem d_Md_put_37 : decode prog_14_method_89_code 37 = .ok (.iload 5, 2) := by decide +kernel
theorem d_Md_put_39 : decode prog_14_method_89_code 39 = .ok (.ifCond .ne 7, 3) := by decide +kernel
theorem d_Md_put_42 : decode prog_14_method_89_code 42 = .ok (.iconst 1, 1) := by decide +kernel
theorem d_Md_put_43 : decode prog_14_method_89_code 43 = .ok (.goto 5, 3) := by decide +kernel
theorem d_Md_put_46 : decode prog_14_method_89_code 46 = .ok (.iload 5, 2) := by decide +kernel
theorem d_Md_put_48 : decode prog_14_method_89_code 48 = .ok (.ireturn, 1) := by decide +kernel
theorem d_Md_element_0 : decode prog_14_method_90_code 0 = .ok (.aload_n 0, 1) := by decide +kernel
theorem d_Md_element_1 : decode prog_14_method_90_code 1 = .ok (.iload_n 1, 1) := by decide +kernel
theorem d_Md_element_2 : decode prog_14_method_90_code 2 = .ok (.iload_n 2, 1) := by decide +kernel
theorem d_Md_element_3 : decode prog_14_method_90_code 3 = .ok (.invokevirtual 341, 3) := by decide +kernel
theorem d_Md_element_6 : decode prog_14_method_90_code 6 = .ok (.ifCond .eq 9, 3) := by decide +kernel
theorem d_Md_element_9 : decode prog_14_method_90_code 9 = .ok (.ldc2_w 246, 3) := by decide +kernel
theorem d_Md_element_12 : decode prog_14_method_90_code 12 = .ok (.goto 14, 3) := by decide +kernel
theorem d_Md_element_15 : decode prog_14_method_90_code 15 = .ok (.aload_n 0, 1) := by decide +kernel
theorem d_Md_element_16 : decode prog_14_method_90_code 16 = .ok (.getfield 70, 3) := by decide +kernel
theorem d_Md_element_19 : decode prog_14_method_90_code 19 = .ok (.bipush 60, 2) := by decide +kernel
theorem d_Md_element_21 : decode prog_14_method_90_code 21 = .ok (.iload_n 1, 1) := by decide +kernel
theorem d_Md_element_22 : decode prog_14_method_90_code 22 = .ok (.imul, 1) := by decide +kernel
theorem d_Md_element_23 : decode prog_14_method_90_code 23 = .ok (.iload_n 2, 1) := by decide +kernel
theorem d_Md_element_24 : decode prog_14_method_90_code 24 = .ok (.iadd, 1) := by decide +kernel
theorem d_Md_element_25 : decode prog_14_method_90_code 25 = .ok (.laload, 1) := by decide +kernel
theorem d_Md_element_26 : decode prog_14_method_90_code 26 = .ok (.lreturn, 1) := by decide +kernel
theorem d_Md_shift_0 : decode prog_14_method_91_code 0 = .ok (.iload_n 1, 1) := by decide +kernel
theorem d_Md_shift_1 : decode prog_14_method_91_code 1 = .ok (.invokestatic 106, 3) := by decide +kernel
theorem d_Md_shift_4 : decode prog_14_method_91_code 4 = .ok (.ifCond .eq 10, 3) := by decide +kernel
theorem d_Md_shift_7 : decode prog_14_method_91_code 7 = .ok (.iload_n 3, 1) := by decide +kernel
theorem d_Md_shift_8 : decode prog_14_method_91_code 8 = .ok (.invokestatic 106, 3) := by decide +kernel
theorem d_Md_shift_11 : decode prog_14_method_91_code 11 = .ok (.ifCond .ne 5, 3) := by decide +kernel
theorem d_Md_shift_14 : decode prog_14_method_91_code 14 = .ok (.iconst (-1), 1) := by decide +kernel
theorem d_Md_shift_15 : decode prog_14_method_91_code 15 = .ok (.ireturn, 1) := by decide +kernel
theorem d_Md_shift_16 : decode prog_14_method_91_code 16 = .ok (.aload_n 0, 1) := by decide +kernel
theorem d_Md_shift_17 : decode prog_14_method_91_code 17 = .ok (.getfield 64, 3) := by decide +kernel
theorem d_Md_shift_20 : decode prog_14_method_91_code 20 = .ok (.iload_n 1, 1) := by decide +kernel
theorem d_Md_shift_21 : decode prog_14_method_91_code 21 = .ok (.iaload, 1) := by decide +kernel
theorem d_Md_shift_22 : decode prog_14_method_91_code 22 = .ok (.ifCond .lt 12, 3) := by decide +kernel
theorem d_Md_shift_25 : decode prog_14_method_91_code 25 = .ok (.aload_n 0, 1) := by decide +kernel
theorem d_Md_shift_26 : decode prog_14_method_91_code 26 = .ok (.getfield 64, 3) := by decide +kernel
theorem d_Md_shift_29 : decode prog_14_method_91_code 29 = .ok (.iload_n 3, 1) := by decide +kernel
theorem d_Md_shift_30 : decode prog_14_method_91_code 30 = .ok (.iaload, 1) := by decide +kernel
theorem d_Md_shift_31 : decode prog_14_method_91_code 31 = .ok (.ifCond .ge 6, 3) := by decide +kernel
theorem d_Md_shift_34 : decode prog_14_method_91_code 34 = .ok (.bipush (-11), 2) := by decide +kernel
theorem d_Md_shift_36 : decode prog_14_method_91_code 36 = .ok (.ireturn, 1) := by decide +kernel
theorem d_Md_shift_37 : decode prog_14_method_91_code 37 = .ok (.aload_n 0, 1) := by decide +kernel
theorem d_Md_shift_38 : decode prog_14_method_91_code 38 = .ok (.getfield 64, 3) := by decide +kernel
theorem d_Md_shift_41 : decode prog_14_method_91_code 41 = .ok (.iload_n 1, 1) := by decide +kernel
theorem d_Md_shift_42 : decode prog_14_method_91_code 42 = .ok (.iaload, 1) := by decide +kernel
theorem d_Md_shift_43 : decode prog_14_method_91_code 43 = .ok (.bipush 50, 2) := by decide +kernel
theorem d_Md_shift_45 : decode prog_14_method_91_code 45 = .ok (.if_icmp .lt 18, 3) := by decide +kernel
theorem d_Md_shift_48 : decode prog_14_method_91_code 48 = .ok (.aload_n 0, 1) := by decide +kernel
theorem d_Md_shift_49 : decode prog_14_method_91_code 49 = .ok (.getfield 64, 3) := by decide +kernel
theorem d_Md_shift_52 : decode prog_14_method_91_code 52 = .ok (.iload_n 1, 1) := by decide +kernel
theorem d_Md_shift_53 : decode prog_14_method_91_code 53 = .ok (.iaload, 1) := by decide +kernel
theorem d_Md_shift_54 : decode prog_14_method_91_code 54 = .ok (.aload_n 0, 1) := by decide +kernel
theorem d_Md_shift_55 : decode prog_14_method_91_code 55 = .ok (.getfield 64, 3) := by decide +kernel
theorem d_Md_shift_58 : decode prog_14_method_91_code 58 = .ok (.iload_n 3, 1) := by decide +kernel
theorem d_Md_shift_59 : decode prog_14_method_91_code 59 = .ok (.iaload, 1) := by decide +kernel
theorem d_Md_shift_60 : decode prog_14_method_91_code 60 = .ok (.if_icmp .eq 6, 3) := by decide +kernel
theorem d_Md_shift_63 : decode prog_14_method_91_code 63 = .ok (.bipush (-12), 2) := by decide +kernel
theorem d_Md_shift_65 : decode prog_14_method_91_code 65 = .ok (.ireturn, 1) := by decide +kernel
theorem d_Md_shift_66 : decode prog_14_method_91_code 66 = .ok (.iload 5, 2) := by decide +kernel
theorem d_Md_shift_68 : decode prog_14_method_91_code 68 = .ok (.ifCond .lt 39, 3) := by decide +kernel
theorem d_Md_shift_71 : decode prog_14_method_91_code 71 = .ok (.iload_n 2, 1) := by decide +kernel
theorem d_Md_shift_72 : decode prog_14_method_91_code 72 = .ok (.ifCond .lt 35, 3) := by decide +kernel
theorem d_Md_shift_75 : decode prog_14_method_91_code 75 = .ok (.iload 4, 2) := by decide +kernel
theorem d_Md_shift_77 : decode prog_14_method_91_code 77 = .ok (.ifCond .lt 30, 3) := by decide +kernel
theorem d_Md_shift_80 : decode prog_14_method_91_code 80 = .ok (.iload_n 2, 1) := by decide +kernel
theorem d_Md_shift_81 : decode prog_14_method_91_code 81 = .ok (.aload_n 0, 1) := by decide +kernel
theorem d_Md_shift_82 : decode prog_14_method_91_code 82 = .ok (.getfield 67, 3) := by decide +kernel
theorem d_Md_shift_85 : decode prog_14_method_91_code 85 = .ok (.iload_n 1, 1) := by decide +kernel
theorem d_Md_shift_86 : decode prog_14_method_91_code 86 = .ok (.iaload, 1) := by decide +kernel
theorem d_Md_shift_87 : decode prog_14_method_91_code 87 = .ok (.iload 5, 2) := by decide +kernel
theorem d_Md_shift_89 : decode prog_14_method_91_code 89 = .ok (.isub, 1) := by decide +kernel
theorem d_Md_shift_90 : decode prog_14_method_91_code 90 = .ok (.if_icmp .gt 17, 3) := by decide +kernel
theorem d_Md_shift_93 : decode prog_14_method_91_code 93 = .ok (.iload 4, 2) := by decide +kernel
theorem d_Md_shift_95 : decode prog_14_method_91_code 95 = .ok (.aload_n 0, 1) := by decide +kernel
theorem d_Md_shift_96 : decode prog_14_method_91_code 96 = .ok (.getfield 67, 3) := by decide +kernel
theorem d_Md_shift_99 : decode prog_14_method_91_code 99 = .ok (.iload_n 3, 1) := by decide +kernel
theorem d_Md_shift_100 : decode prog_14_method_91_code 100 = .ok (.iaload, 1) := by decide +kernel
theorem d_Md_shift_101 : decode prog_14_method_91_code 101 = .ok (.iload 5, 2) := by decide +kernel
theorem d_Md_shift_103 : decode prog_14_method_91_code 103 = .ok (.isub, 1) := by decide +kernel
theorem d_Md_shift_104 : decode prog_14_method_91_code 104 = .ok (.if_icmp .le 6, 3) := by decide +kernel
theorem d_Md_shift_107 : decode prog_14_method_91_code 107 = .ok (.bipush (-13), 2) := by decide +kernel
theorem d_Md_shift_109 : decode prog_14_method_91_code 109 = .ok (.ireturn, 1) := by decide +kernel
theorem d_Md_shift_110 : decode prog_14_method_91_code 110 = .ok (.iconst 0, 1) := by decide +kernel
theorem d_Md_shift_111 : decode prog_14_method_91_code 111 = .ok (.istore 6, 2) := by decide +kernel
theorem d_Md_shift_113 : decode prog_14_method_91_code 113 = .ok (.iload 6, 2) := by decide +kernel
theorem d_Md_shift_115 : decode prog_14_method_91_code 115 = .ok (.iload 5, 2) := by decide +kernel
theorem d_Md_shift_117 : decode prog_14_method_91_code 117 = .ok (.if_icmp .ge 30, 3) := by decide +kernel
theorem d_Md_shift_120 : decode prog_14_method_91_code 120 = .ok (.aload_n 0, 1) := by decide +kernel
theorem d_Md_shift_121 : decode prog_14_method_91_code 121 = .ok (.getfield 74, 3) := by decide +kernel
theorem d_Md_shift_124 : decode prog_14_method_91_code 124 = .ok (.iload 6, 2) := by decide +kernel
theorem d_Md_shift_126 : decode prog_14_method_91_code 126 = .ok (.aload_n 0, 1) := by decide +kernel
theorem d_Md_shift_127 : decode prog_14_method_91_code 127 = .ok (.getfield 70, 3) := by decide +kernel
theorem d_Md_shift_130 : decode prog_14_method_91_code 130 = .ok (.bipush 60, 2) := by decide +kernel
theorem d_Md_shift_132 : decode prog_14_method_91_code 132 = .ok (.iload_n 1, 1) := by decide +kernel
theorem d_Md_shift_133 : decode prog_14_method_91_code 133 = .ok (.imul, 1) := by decide +kernel
theorem d_Md_shift_134 : decode prog_14_method_91_code 134 = .ok (.iload_n 2, 1) := by decide +kernel
theorem d_Md_shift_135 : decode prog_14_method_91_code 135 = .ok (.iadd, 1) := by decide +kernel
theorem d_Md_shift_136 : decode prog_14_method_91_code 136 = .ok (.iload 6, 2) := by decide +kernel
theorem d_Md_shift_138 : decode prog_14_method_91_code 138 = .ok (.iadd, 1) := by decide +kernel
theorem d_Md_shift_139 : decode prog_14_method_91_code 139 = .ok (.laload, 1) := by decide +kernel
theorem d_Md_shift_140 : decode prog_14_method_91_code 140 = .ok (.lastore, 1) := by decide +kernel
theorem d_Md_shift_141 : decode prog_14_method_91_code 141 = .ok (.iinc 6 1, 3) := by decide +kernel
theorem d_Md_shift_144 : decode prog_14_method_91_code 144 = .ok (.goto (-31), 3) := by decide +kernel
theorem d_Md_shift_147 : decode prog_14_method_91_code 147 = .ok (.iconst 0, 1) := by decide +kernel
theorem d_Md_shift_148 : decode prog_14_method_91_code 148 = .ok (.istore 6, 2) := by decide +kernel
theorem d_Md_shift_150 : decode prog_14_method_91_code 150 = .ok (.iload 6, 2) := by decide +kernel
theorem d_Md_shift_152 : decode prog_14_method_91_code 152 = .ok (.iload 5, 2) := by decide +kernel
theorem d_Md_shift_154 : decode prog_14_method_91_code 154 = .ok (.if_icmp .ge 31, 3) := by decide +kernel
theorem d_Md_shift_157 : decode prog_14_method_91_code 157 = .ok (.aload_n 0, 1) := by decide +kernel
theorem d_Md_shift_158 : decode prog_14_method_91_code 158 = .ok (.getfield 70, 3) := by decide +kernel
theorem d_Md_shift_161 : decode prog_14_method_91_code 161 = .ok (.bipush 60, 2) := by decide +kernel
theorem d_Md_shift_163 : decode prog_14_method_91_code 163 = .ok (.iload_n 3, 1) := by decide +kernel
theorem d_Md_shift_164 : decode prog_14_method_91_code 164 = .ok (.imul, 1) := by decide +kernel
theorem d_Md_shift_165 : decode prog_14_method_91_code 165 = .ok (.iload 4, 2) := by decide +kernel
theorem d_Md_shift_167 : decode prog_14_method_91_code 167 = .ok (.iadd, 1) := by decide +kernel
theorem d_Md_shift_168 : decode prog_14_method_91_code 168 = .ok (.iload 6, 2) := by decide +kernel
theorem d_Md_shift_170 : decode prog_14_method_91_code 170 = .ok (.iadd, 1) := by decide +kernel
theorem d_Md_shift_171 : decode prog_14_method_91_code 171 = .ok (.aload_n 0, 1) := by decide +kernel
theorem d_Md_shift_172 : decode prog_14_method_91_code 172 = .ok (.getfield 74, 3) := by decide +kernel
theorem d_Md_shift_175 : decode prog_14_method_91_code 175 = .ok (.iload 6, 2) := by decide +kernel
theorem d_Md_shift_177 : decode prog_14_method_91_code 177 = .ok (.laload, 1) := by decide +kernel
theorem d_Md_shift_178 : decode prog_14_method_91_code 178 = .ok (.lastore, 1) := by decide +kernel
theorem d_Md_shift_179 : decode prog_14_method_91_code 179 = .ok (.iinc 6 1, 3) := by decide +kernel
theorem d_Md_shift_182 : decode prog_14_method_91_code 182 = .ok (.goto (-32), 3) := by decide +kernel
theorem d_Md_shift_185 : decode prog_14_method_91_code 185 = .ok (.iload 5, 2) := by decide +kernel
theorem d_Md_shift_187 : decode prog_14_method_91_code 187 = .ok (.ireturn, 1) := by decide +kernel
theorem d_Md_taken_0 : decode prog_14_method_92_code 0 = .ok (.iload_n 1, 1) := by decide +kernel
theorem d_Md_taken_1 : decode prog_14_method_92_code 1 = .ok (.invokestatic 106, 3) := by decide +kernel
theorem d_Md_taken_4 : decode prog_14_method_92_code 4 = .ok (.ifCond .eq 15, 3) := by decide +kernel
theorem d_Md_taken_7 : decode prog_14_method_92_code 7 = .ok (.iload_n 2, 1) := by decide +kernel
theorem d_Md_taken_8 : decode prog_14_method_92_code 8 = .ok (.i2l, 1) := by decide +kernel
theorem d_Md_taken_9 : decode prog_14_method_92_code 9 = .ok (.lconst 0, 1) := by decide +kernel
theorem d_Md_taken_10 : decode prog_14_method_92_code 10 = .ok (.ldc2_w 310, 3) := by decide +kernel
theorem d_Md_taken_13 : decode prog_14_method_92_code 13 = .ok (.invokestatic 89, 3) := by decide +kernel
theorem d_Md_taken_16 : decode prog_14_method_92_code 16 = .ok (.ifCond .ne 5, 3) := by decide +kernel
theorem d_Md_taken_19 : decode prog_14_method_92_code 19 = .ok (.iconst (-1), 1) := by decide +kernel
theorem d_Md_taken_20 : decode prog_14_method_92_code 20 = .ok (.ireturn, 1) := by decide +kernel
theorem d_Md_taken_21 : decode prog_14_method_92_code 21 = .ok (.aload_n 0, 1) := by decide +kernel
theorem d_Md_taken_22 : decode prog_14_method_92_code 22 = .ok (.getfield 64, 3) := by decide +kernel
theorem d_Md_taken_25 : decode prog_14_method_92_code 25 = .ok (.iload_n 1, 1) := by decide +kernel
theorem d_Md_taken_26 : decode prog_14_method_92_code 26 = .ok (.iaload, 1) := by decide +kernel
theorem d_Md_taken_27 : decode prog_14_method_92_code 27 = .ok (.ifCond .ge 6, 3) := by decide +kernel
theorem d_Md_taken_30 : decode prog_14_method_92_code 30 = .ok (.bipush (-11), 2) := by decide +kernel
theorem d_Md_taken_32 : decode prog_14_method_92_code 32 = .ok (.ireturn, 1) := by decide +kernel
theorem d_Md_taken_33 : decode prog_14_method_92_code 33 = .ok (.aload_n 0, 1) := by decide +kernel
theorem d_Md_taken_34 : decode prog_14_method_92_code 34 = .ok (.getfield 64, 3) := by decide +kernel
theorem d_Md_taken_37 : decode prog_14_method_92_code 37 = .ok (.iload_n 1, 1) := by decide +kernel
theorem d_Md_taken_38 : decode prog_14_method_92_code 38 = .ok (.iaload, 1) := by decide +kernel
theorem d_Md_taken_39 : decode prog_14_method_92_code 39 = .ok (.bipush 50, 2) := by decide +kernel
theorem d_Md_taken_41 : decode prog_14_method_92_code 41 = .ok (.if_icmp .lt 6, 3) := by decide +kernel
theorem d_Md_taken_44 : decode prog_14_method_92_code 44 = .ok (.bipush (-12), 2) := by decide +kernel
theorem d_Md_taken_46 : decode prog_14_method_92_code 46 = .ok (.ireturn, 1) := by decide +kernel
theorem d_Md_taken_47 : decode prog_14_method_92_code 47 = .ok (.aload_n 0, 1) := by decide +kernel
theorem d_Md_taken_48 : decode prog_14_method_92_code 48 = .ok (.aload_n 0, 1) := by decide +kernel
theorem d_Md_taken_49 : decode prog_14_method_92_code 49 = .ok (.getfield 64, 3) := by decide +kernel
theorem d_Md_taken_52 : decode prog_14_method_92_code 52 = .ok (.iload_n 1, 1) := by decide +kernel
theorem d_Md_taken_53 : decode prog_14_method_92_code 53 = .ok (.iaload, 1) := by decide +kernel
theorem d_Md_taken_54 : decode prog_14_method_92_code 54 = .ok (.invokevirtual 348, 3) := by decide +kernel
theorem d_Md_taken_57 : decode prog_14_method_92_code 57 = .ok (.istore_n 3, 1) := by decide +kernel
theorem d_Md_taken_58 : decode prog_14_method_92_code 58 = .ok (.iload_n 3, 1) := by decide +kernel
theorem d_Md_taken_59 : decode prog_14_method_92_code 59 = .ok (.iload_n 2, 1) := by decide +kernel
theorem d_Md_taken_60 : decode prog_14_method_92_code 60 = .ok (.if_icmp .eq 15, 3) := by decide +kernel
theorem d_Md_taken_63 : decode prog_14_method_92_code 63 = .ok (.iload_n 3, 1) := by decide +kernel
theorem d_Md_taken_64 : decode prog_14_method_92_code 64 = .ok (.ifCond .le 11, 3) := by decide +kernel
theorem d_Md_taken_67 : decode prog_14_method_92_code 67 = .ok (.iload_n 3, 1) := by decide +kernel
theorem d_Md_taken_68 : decode prog_14_method_92_code 68 = .ok (.invokestatic 351, 3) := by decide +kernel
theorem d_Md_taken_71 : decode prog_14_method_92_code 71 = .ok (.istore_n 3, 1) := by decide +kernel
theorem d_Md_taken_72 : decode prog_14_method_92_code 72 = .ok (.goto (-14), 3) := by decide +kernel
theorem d_Md_taken_75 : decode prog_14_method_92_code 75 = .ok (.iload_n 3, 1) := by decide +kernel
theorem d_Md_taken_76 : decode prog_14_method_92_code 76 = .ok (.iload_n 2, 1) := by decide +kernel
theorem d_Md_taken_77 : decode prog_14_method_92_code 77 = .ok (.if_icmp .ne 16, 3) := by decide +kernel
theorem d_Md_taken_80 : decode prog_14_method_92_code 80 = .ok (.aload_n 0, 1) := by decide +kernel
theorem d_Md_taken_81 : decode prog_14_method_92_code 81 = .ok (.aload_n 0, 1) := by decide +kernel
theorem d_Md_taken_82 : decode prog_14_method_92_code 82 = .ok (.getfield 64, 3) := by decide +kernel
theorem d_Md_taken_85 : decode prog_14_method_92_code 85 = .ok (.iload_n 1, 1) := by decide +kernel
theorem d_Md_taken_86 : decode prog_14_method_92_code 86 = .ok (.iaload, 1) := by decide +kernel
theorem d_Md_taken_87 : decode prog_14_method_92_code 87 = .ok (.invokevirtual 348, 3) := by decide +kernel
theorem d_Md_taken_90 : decode prog_14_method_92_code 90 = .ok (.goto 5, 3) := by decide +kernel
theorem d_Md_taken_93 : decode prog_14_method_92_code 93 = .ok (.bipush (-12), 2) := by decide +kernel
theorem d_Md_taken_95 : decode prog_14_method_92_code 95 = .ok (.ireturn, 1) := by decide +kernel
theorem d_Md_count_0 : decode prog_14_method_93_code 0 = .ok (.iload_n 1, 1) := by decide +kernel
theorem d_Md_count_1 : decode prog_14_method_93_code 1 = .ok (.tableswitch 78 0 6 #[43, 48, 53, 58, 63, 68, 73], 43) := by decide +kernel
theorem d_Md_count_44 : decode prog_14_method_93_code 44 = .ok (.aload_n 0, 1) := by decide +kernel
theorem d_Md_count_45 : decode prog_14_method_93_code 45 = .ok (.getfield 86, 3) := by decide +kernel
theorem d_Md_count_48 : decode prog_14_method_93_code 48 = .ok (.ireturn, 1) := by decide +kernel
theorem d_Md_count_49 : decode prog_14_method_93_code 49 = .ok (.aload_n 0, 1) := by decide +kernel
theorem d_Md_count_50 : decode prog_14_method_93_code 50 = .ok (.invokevirtual 354, 3) := by decide +kernel
theorem d_Md_count_53 : decode prog_14_method_93_code 53 = .ok (.ireturn, 1) := by decide +kernel
theorem d_Md_count_54 : decode prog_14_method_93_code 54 = .ok (.aload_n 0, 1) := by decide +kernel
theorem d_Md_count_55 : decode prog_14_method_93_code 55 = .ok (.invokevirtual 288, 3) := by decide +kernel
theorem d_Md_count_58 : decode prog_14_method_93_code 58 = .ok (.ireturn, 1) := by decide +kernel
theorem d_Md_count_59 : decode prog_14_method_93_code 59 = .ok (.aload_n 0, 1) := by decide +kernel
theorem d_Md_count_60 : decode prog_14_method_93_code 60 = .ok (.getfield 142, 3) := by decide +kernel
theorem d_Md_count_63 : decode prog_14_method_93_code 63 = .ok (.ireturn, 1) := by decide +kernel
theorem d_Md_count_64 : decode prog_14_method_93_code 64 = .ok (.aload_n 0, 1) := by decide +kernel
theorem d_Md_count_65 : decode prog_14_method_93_code 65 = .ok (.getfield 80, 3) := by decide +kernel
theorem d_Md_count_68 : decode prog_14_method_93_code 68 = .ok (.ireturn, 1) := by decide +kernel
theorem d_Md_count_69 : decode prog_14_method_93_code 69 = .ok (.aload_n 0, 1) := by decide +kernel
theorem d_Md_count_70 : decode prog_14_method_93_code 70 = .ok (.getfield 307, 3) := by decide +kernel
theorem d_Md_count_73 : decode prog_14_method_93_code 73 = .ok (.ireturn, 1) := by decide +kernel
theorem d_Md_count_74 : decode prog_14_method_93_code 74 = .ok (.aload_n 0, 1) := by decide +kernel
theorem d_Md_count_75 : decode prog_14_method_93_code 75 = .ok (.getfield 312, 3) := by decide +kernel
theorem d_Md_count_78 : decode prog_14_method_93_code 78 = .ok (.ireturn, 1) := by decide +kernel
theorem d_Md_count_79 : decode prog_14_method_93_code 79 = .ok (.iconst (-1), 1) := by decide +kernel
theorem d_Md_count_80 : decode prog_14_method_93_code 80 = .ok (.ireturn, 1) := by decide +kernel
theorem d_J_bitCount_0 : decode prog_15_method_49_code 0 = .ok (.iload_n 0, 1) := by decide +kernel
theorem d_J_bitCount_1 : decode prog_15_method_49_code 1 = .ok (.iload_n 0, 1) := by decide +kernel
theorem d_J_bitCount_2 : decode prog_15_method_49_code 2 = .ok (.iconst 1, 1) := by decide +kernel
theorem d_J_bitCount_3 : decode prog_15_method_49_code 3 = .ok (.iushr, 1) := by decide +kernel
theorem d_J_bitCount_4 : decode prog_15_method_49_code 4 = .ok (.ldc_w 265, 3) := by decide +kernel
theorem d_J_bitCount_7 : decode prog_15_method_49_code 7 = .ok (.iand, 1) := by decide +kernel
theorem d_J_bitCount_8 : decode prog_15_method_49_code 8 = .ok (.isub, 1) := by decide +kernel
theorem d_J_bitCount_9 : decode prog_15_method_49_code 9 = .ok (.istore_n 0, 1) := by decide +kernel
theorem d_J_bitCount_10 : decode prog_15_method_49_code 10 = .ok (.iload_n 0, 1) := by decide +kernel
theorem d_J_bitCount_11 : decode prog_15_method_49_code 11 = .ok (.ldc_w 266, 3) := by decide +kernel
theorem d_J_bitCount_14 : decode prog_15_method_49_code 14 = .ok (.iand, 1) := by decide +kernel
theorem d_J_bitCount_15 : decode prog_15_method_49_code 15 = .ok (.iload_n 0, 1) := by decide +kernel
theorem d_J_bitCount_16 : decode prog_15_method_49_code 16 = .ok (.iconst 2, 1) := by decide +kernel
theorem d_J_bitCount_17 : decode prog_15_method_49_code 17 = .ok (.iushr, 1) := by decide +kernel
theorem d_J_bitCount_18 : decode prog_15_method_49_code 18 = .ok (.ldc_w 266, 3) := by decide +kernel
theorem d_J_bitCount_21 : decode prog_15_method_49_code 21 = .ok (.iand, 1) := by decide +kernel
theorem d_J_bitCount_22 : decode prog_15_method_49_code 22 = .ok (.iadd, 1) := by decide +kernel
theorem d_J_bitCount_23 : decode prog_15_method_49_code 23 = .ok (.istore_n 0, 1) := by decide +kernel
theorem d_J_bitCount_24 : decode prog_15_method_49_code 24 = .ok (.iload_n 0, 1) := by decide +kernel
theorem d_J_bitCount_25 : decode prog_15_method_49_code 25 = .ok (.iload_n 0, 1) := by decide +kernel
theorem d_J_bitCount_26 : decode prog_15_method_49_code 26 = .ok (.iconst 4, 1) := by decide +kernel
theorem d_J_bitCount_27 : decode prog_15_method_49_code 27 = .ok (.iushr, 1) := by decide +kernel
theorem d_J_bitCount_28 : decode prog_15_method_49_code 28 = .ok (.iadd, 1) := by decide +kernel
theorem d_J_bitCount_29 : decode prog_15_method_49_code 29 = .ok (.ldc_w 267, 3) := by decide +kernel
theorem d_J_bitCount_32 : decode prog_15_method_49_code 32 = .ok (.iand, 1) := by decide +kernel
theorem d_J_bitCount_33 : decode prog_15_method_49_code 33 = .ok (.istore_n 0, 1) := by decide +kernel
theorem d_J_bitCount_34 : decode prog_15_method_49_code 34 = .ok (.iload_n 0, 1) := by decide +kernel
theorem d_J_bitCount_35 : decode prog_15_method_49_code 35 = .ok (.iload_n 0, 1) := by decide +kernel
theorem d_J_bitCount_36 : decode prog_15_method_49_code 36 = .ok (.bipush 8, 2) := by decide +kernel
theorem d_J_bitCount_38 : decode prog_15_method_49_code 38 = .ok (.iushr, 1) := by decide +kernel
theorem d_J_bitCount_39 : decode prog_15_method_49_code 39 = .ok (.iadd, 1) := by decide +kernel
theorem d_J_bitCount_40 : decode prog_15_method_49_code 40 = .ok (.istore_n 0, 1) := by decide +kernel
theorem d_J_bitCount_41 : decode prog_15_method_49_code 41 = .ok (.iload_n 0, 1) := by decide +kernel
theorem d_J_bitCount_42 : decode prog_15_method_49_code 42 = .ok (.iload_n 0, 1) := by decide +kernel
theorem d_J_bitCount_43 : decode prog_15_method_49_code 43 = .ok (.bipush 16, 2) := by decide +kernel
theorem d_J_bitCount_45 : decode prog_15_method_49_code 45 = .ok (.iushr, 1) := by decide +kernel
theorem d_J_bitCount_46 : decode prog_15_method_49_code 46 = .ok (.iadd, 1) := by decide +kernel
theorem d_J_bitCount_47 : decode prog_15_method_49_code 47 = .ok (.istore_n 0, 1) := by decide +kernel
theorem d_J_bitCount_48 : decode prog_15_method_49_code 48 = .ok (.iload_n 0, 1) := by decide +kernel
theorem d_J_bitCount_49 : decode prog_15_method_49_code 49 = .ok (.bipush 63, 2) := by decide +kernel
theorem d_J_bitCount_51 : decode prog_15_method_49_code 51 = .ok (.iand, 1) := by decide +kernel
theorem d_J_bitCount_52 : decode prog_15_method_49_code 52 = .ok (.ireturn, 1) := by decide +kernel
theorem d_J_max_0 : decode prog_16_method_65_code 0 = .ok (.iload_n 0, 1) := by decide +kernel
theorem d_J_max_1 : decode prog_16_method_65_code 1 = .ok (.iload_n 1, 1) := by decide +kernel
theorem d_J_max_2 : decode prog_16_method_65_code 2 = .ok (.if_icmp .lt 7, 3) := by decide +kernel
theorem d_J_max_5 : decode prog_16_method_65_code 5 = .ok (.iload_n 0, 1) := by decide +kernel
theorem d_J_max_6 : decode prog_16_method_65_code 6 = .ok (.goto 4, 3) := by decide +kernel
theorem d_J_max_9 : decode prog_16_method_65_code 9 = .ok (.iload_n 1, 1) := by decide +kernel
theorem d_J_max_10 : decode prog_16_method_65_code 10 = .ok (.ireturn, 1) := by decide +kernel
theorem d_J_min_0 : decode prog_16_method_69_code 0 = .ok (.iload_n 0, 1) := by decide +kernel
theorem d_J_min_1 : decode prog_16_method_69_code 1 = .ok (.iload_n 1, 1) := by decide +kernel
theorem d_J_min_2 : decode prog_16_method_69_code 2 = .ok (.if_icmp .gt 7, 3) := by decide +kernel
theorem d_J_min_5 : decode prog_16_method_69_code 5 = .ok (.iload_n 0, 1) := by decide +kernel
theorem d_J_min_6 : decode prog_16_method_69_code 6 = .ok (.goto 4, 3) := by decide +kernel
theorem d_J_min_9 : decode prog_16_method_69_code 9 = .ok (.iload_n 1, 1) := by decide +kernel
theorem d_J_min_10 : decode prog_16_method_69_code 10 = .ok (.ireturn, 1) := by decide +kernel
theorem d_J_rangeCheck_0 : decode prog_18_method_30_code 0 = .ok (.iload_n 1, 1) := by decide +kernel
theorem d_J_rangeCheck_1 : decode prog_18_method_30_code 1 = .ok (.iload_n 2, 1) := by decide +kernel
theorem d_J_rangeCheck_2 : decode prog_18_method_30_code 2 = .ok (.if_icmp .le 44, 3) := by decide +kernel
theorem d_J_rangeCheck_46 : decode prog_18_method_30_code 46 = .ok (.iload_n 1, 1) := by decide +kernel
theorem d_J_rangeCheck_47 : decode prog_18_method_30_code 47 = .ok (.ifCond .ge 12, 3) := by decide +kernel
theorem d_J_rangeCheck_59 : decode prog_18_method_30_code 59 = .ok (.iload_n 2, 1) := by decide +kernel
theorem d_J_rangeCheck_60 : decode prog_18_method_30_code 60 = .ok (.iload_n 0, 1) := by decide +kernel
theorem d_J_rangeCheck_61 : decode prog_18_method_30_code 61 = .ok (.if_icmp .le 12, 3) := by decide +kernel
theorem d_J_rangeCheck_73 : decode prog_18_method_30_code 73 = .ok (.return_, 1) := by decide +kernel
theorem d_J_fillL_0 : decode prog_18_method_102_code 0 = .ok (.aload_n 0, 1) := by decide +kernel
theorem d_J_fillL_1 : decode prog_18_method_102_code 1 = .ok (.arraylength, 1) := by decide +kernel
theorem d_J_fillL_2 : decode prog_18_method_102_code 2 = .ok (.iload_n 1, 1) := by decide +kernel
theorem d_J_fillL_3 : decode prog_18_method_102_code 3 = .ok (.iload_n 2, 1) := by decide +kernel
theorem d_J_fillL_4 : decode prog_18_method_102_code 4 = .ok (.invokestatic 13, 3) := by decide +kernel
theorem d_J_fillL_7 : decode prog_18_method_102_code 7 = .ok (.iload_n 1, 1) := by decide +kernel
theorem d_J_fillL_8 : decode prog_18_method_102_code 8 = .ok (.istore 5, 2) := by decide +kernel
theorem d_J_fillL_10 : decode prog_18_method_102_code 10 = .ok (.iload 5, 2) := by decide +kernel
theorem d_J_fillL_12 : decode prog_18_method_102_code 12 = .ok (.iload_n 2, 1) := by decide +kernel
theorem d_J_fillL_13 : decode prog_18_method_102_code 13 = .ok (.if_icmp .ge 14, 3) := by decide +kernel
theorem d_J_fillL_16 : decode prog_18_method_102_code 16 = .ok (.aload_n 0, 1) := by decide +kernel
theorem d_J_fillL_17 : decode prog_18_method_102_code 17 = .ok (.iload 5, 2) := by decide +kernel
theorem d_J_fillL_19 : decode prog_18_method_102_code 19 = .ok (.lload_n 3, 1) := by decide +kernel
theorem d_J_fillL_20 : decode prog_18_method_102_code 20 = .ok (.lastore, 1) := by decide +kernel
theorem d_J_fillL_21 : decode prog_18_method_102_code 21 = .ok (.iinc 5 1, 3) := by decide +kernel
theorem d_J_fillL_24 : decode prog_18_method_102_code 24 = .ok (.goto (-14), 3) := by decide +kernel
theorem d_J_fillL_27 : decode prog_18_method_102_code 27 = .ok (.return_, 1) := by decide +kernel
theorem d_J_fillI_0 : decode prog_18_method_103_code 0 = .ok (.iconst 0, 1) := by decide +kernel
theorem d_J_fillI_1 : decode prog_18_method_103_code 1 = .ok (.istore_n 2, 1) := by decide +kernel
theorem d_J_fillI_2 : decode prog_18_method_103_code 2 = .ok (.aload_n 0, 1) := by decide +kernel
theorem d_J_fillI_3 : decode prog_18_method_103_code 3 = .ok (.arraylength, 1) := by decide +kernel
theorem d_J_fillI_4 : decode prog_18_method_103_code 4 = .ok (.istore_n 3, 1) := by decide +kernel
theorem d_J_fillI_5 : decode prog_18_method_103_code 5 = .ok (.iload_n 2, 1) := by decide +kernel
theorem d_J_fillI_6 : decode prog_18_method_103_code 6 = .ok (.iload_n 3, 1) := by decide +kernel
theorem d_J_fillI_7 : decode prog_18_method_103_code 7 = .ok (.if_icmp .ge 13, 3) := by decide +kernel
theorem d_J_fillI_10 : decode prog_18_method_103_code 10 = .ok (.aload_n 0, 1) := by decide +kernel
theorem d_J_fillI_11 : decode prog_18_method_103_code 11 = .ok (.iload_n 2, 1) := by decide +kernel
theorem d_J_fillI_12 : decode prog_18_method_103_code 12 = .ok (.iload_n 1, 1) := by decide +kernel
theorem d_J_fillI_13 : decode prog_18_method_103_code 13 = .ok (.iastore, 1) := by decide +kernel
theorem d_J_fillI_14 : decode prog_18_method_103_code 14 = .ok (.iinc 2 1, 3) := by decide +kernel
theorem d_J_fillI_17 : decode prog_18_method_103_code 17 = .ok (.goto (-12), 3) := by decide +kernel
theorem d_J_fillI_20 : decode prog_18_method_103_code 20 = .ok (.return_, 1) := by decide +kernel
