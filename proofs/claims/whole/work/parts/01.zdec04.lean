theorem d_Md_begins1_3 : decode prog_14_method_32_code 3 = .ok (.getfield 86, 3) := by decide +kernel
theorem d_Md_begins1_6 : decode prog_14_method_32_code 6 = .ok (.ishl, 1) := by decide +kernel
theorem d_Md_begins1_7 : decode prog_14_method_32_code 7 = .ok (.iconst 1, 1) := by decide +kernel
theorem d_Md_begins1_8 : decode prog_14_method_32_code 8 = .ok (.isub, 1) := by decide +kernel
theorem d_Md_begins1_9 : decode prog_14_method_32_code 9 = .ok (.putfield 202, 3) := by decide +kernel
theorem d_Md_begins1_12 : decode prog_14_method_32_code 12 = .ok (.aload_n 0, 1) := by decide +kernel
theorem d_Md_begins1_13 : decode prog_14_method_32_code 13 = .ok (.iconst 0, 1) := by decide +kernel
theorem d_Md_begins1_14 : decode prog_14_method_32_code 14 = .ok (.putfield 205, 3) := by decide +kernel
theorem d_Md_begins1_17 : decode prog_14_method_32_code 17 = .ok (.aload_n 0, 1) := by decide +kernel
theorem d_Md_begins1_18 : decode prog_14_method_32_code 18 = .ok (.iconst 0, 1) := by decide +kernel
theorem d_Md_begins1_19 : decode prog_14_method_32_code 19 = .ok (.putfield 208, 3) := by decide +kernel
theorem d_Md_begins1_22 : decode prog_14_method_32_code 22 = .ok (.aload_n 0, 1) := by decide +kernel
theorem d_Md_begins1_23 : decode prog_14_method_32_code 23 = .ok (.iconst 0, 1) := by decide +kernel
theorem d_Md_begins1_24 : decode prog_14_method_32_code 24 = .ok (.putfield 211, 3) := by decide +kernel
theorem d_Md_begins1_27 : decode prog_14_method_32_code 27 = .ok (.iconst 0, 1) := by decide +kernel
theorem d_Md_begins1_28 : decode prog_14_method_32_code 28 = .ok (.istore_n 1, 1) := by decide +kernel
theorem d_Md_begins1_29 : decode prog_14_method_32_code 29 = .ok (.iload_n 1, 1) := by decide +kernel
theorem d_Md_begins1_30 : decode prog_14_method_32_code 30 = .ok (.bipush 15, 2) := by decide +kernel
theorem d_Md_begins1_32 : decode prog_14_method_32_code 32 = .ok (.if_icmp .ge 17, 3) := by decide +kernel
theorem d_Md_begins1_35 : decode prog_14_method_32_code 35 = .ok (.aload_n 0, 1) := by decide +kernel
theorem d_Md_begins1_36 : decode prog_14_method_32_code 36 = .ok (.getfield 40, 3) := by decide +kernel
theorem d_Md_begins1_39 : decode prog_14_method_32_code 39 = .ok (.iload_n 1, 1) := by decide +kernel
theorem d_Md_begins1_40 : decode prog_14_method_32_code 40 = .ok (.bipush (-2), 2) := by decide +kernel
theorem d_Md_begins1_42 : decode prog_14_method_32_code 42 = .ok (.iastore, 1) := by decide +kernel
theorem d_Md_begins1_43 : decode prog_14_method_32_code 43 = .ok (.iinc 1 1, 3) := by decide +kernel
theorem d_Md_begins1_46 : decode prog_14_method_32_code 46 = .ok (.goto (-17), 3) := by decide +kernel
theorem d_Md_begins1_49 : decode prog_14_method_32_code 49 = .ok (.return_, 1) := by decide +kernel
theorem d_Md_asksWaiting_0 : decode prog_14_method_33_code 0 = .ok (.aload_n 0, 1) := by decide +kernel
theorem d_Md_asksWaiting_1 : decode prog_14_method_33_code 1 = .ok (.iconst 0, 1) := by decide +kernel
theorem d_Md_asksWaiting_2 : decode prog_14_method_33_code 2 = .ok (.putfield 214, 3) := by decide +kernel
theorem d_Md_asksWaiting_5 : decode prog_14_method_33_code 5 = .ok (.iconst 0, 1) := by decide +kernel
theorem d_Md_asksWaiting_6 : decode prog_14_method_33_code 6 = .ok (.istore_n 3, 1) := by decide +kernel
theorem d_Md_asksWaiting_7 : decode prog_14_method_33_code 7 = .ok (.iload_n 3, 1) := by decide +kernel
theorem d_Md_asksWaiting_8 : decode prog_14_method_33_code 8 = .ok (.aload_n 0, 1) := by decide +kernel
theorem d_Md_asksWaiting_9 : decode prog_14_method_33_code 9 = .ok (.getfield 86, 3) := by decide +kernel
theorem d_Md_asksWaiting_12 : decode prog_14_method_33_code 12 = .ok (.aload_n 0, 1) := by decide +kernel
theorem d_Md_asksWaiting_13 : decode prog_14_method_33_code 13 = .ok (.getfield 208, 3) := by decide +kernel
theorem d_Md_asksWaiting_16 : decode prog_14_method_33_code 16 = .ok (.iadd, 1) := by decide +kernel
theorem d_Md_asksWaiting_17 : decode prog_14_method_33_code 17 = .ok (.if_icmp .ge 132, 3) := by decide +kernel
theorem d_Md_asksWaiting_20 : decode prog_14_method_33_code 20 = .ok (.aload_n 0, 1) := by decide +kernel
theorem d_Md_asksWaiting_21 : decode prog_14_method_33_code 21 = .ok (.getfield 11, 3) := by decide +kernel
theorem d_Md_asksWaiting_24 : decode prog_14_method_33_code 24 = .ok (.iconst 5, 1) := by decide +kernel
theorem d_Md_asksWaiting_25 : decode prog_14_method_33_code 25 = .ok (.iload_n 3, 1) := by decide +kernel
theorem d_Md_asksWaiting_26 : decode prog_14_method_33_code 26 = .ok (.imul, 1) := by decide +kernel
theorem d_Md_asksWaiting_27 : decode prog_14_method_33_code 27 = .ok (.iconst 1, 1) := by decide +kernel
theorem d_Md_asksWaiting_28 : decode prog_14_method_33_code 28 = .ok (.iadd, 1) := by decide +kernel
theorem d_Md_asksWaiting_29 : decode prog_14_method_33_code 29 = .ok (.iaload, 1) := by decide +kernel
theorem d_Md_asksWaiting_30 : decode prog_14_method_33_code 30 = .ok (.istore 4, 2) := by decide +kernel
theorem d_Md_asksWaiting_32 : decode prog_14_method_33_code 32 = .ok (.iload_n 3, 1) := by decide +kernel
theorem d_Md_asksWaiting_33 : decode prog_14_method_33_code 33 = .ok (.aload_n 0, 1) := by decide +kernel
theorem d_Md_asksWaiting_34 : decode prog_14_method_33_code 34 = .ok (.getfield 86, 3) := by decide +kernel
theorem d_Md_asksWaiting_37 : decode prog_14_method_33_code 37 = .ok (.if_icmp .ge 26, 3) := by decide +kernel
theorem d_Md_asksWaiting_40 : decode prog_14_method_33_code 40 = .ok (.aload_n 0, 1) := by decide +kernel
theorem d_Md_asksWaiting_41 : decode prog_14_method_33_code 41 = .ok (.getfield 202, 3) := by decide +kernel
theorem d_Md_asksWaiting_44 : decode prog_14_method_33_code 44 = .ok (.iload_n 3, 1) := by decide +kernel
theorem d_Md_asksWaiting_45 : decode prog_14_method_33_code 45 = .ok (.invokestatic 131, 3) := by decide +kernel
theorem d_Md_asksWaiting_48 : decode prog_14_method_33_code 48 = .ok (.ifCond .eq 31, 3) := by decide +kernel
theorem d_Md_asksWaiting_51 : decode prog_14_method_33_code 51 = .ok (.aload_n 0, 1) := by decide +kernel
theorem d_Md_asksWaiting_52 : decode prog_14_method_33_code 52 = .ok (.getfield 205, 3) := by decide +kernel
theorem d_Md_asksWaiting_55 : decode prog_14_method_33_code 55 = .ok (.iload_n 3, 1) := by decide +kernel
theorem d_Md_asksWaiting_56 : decode prog_14_method_33_code 56 = .ok (.invokestatic 131, 3) := by decide +kernel
theorem d_Md_asksWaiting_59 : decode prog_14_method_33_code 59 = .ok (.iload_n 2, 1) := by decide +kernel
theorem d_Md_asksWaiting_60 : decode prog_14_method_33_code 60 = .ok (.if_icmp .ne 19, 3) := by decide +kernel
theorem d_Md_asksWaiting_63 : decode prog_14_method_33_code 63 = .ok (.iload_n 3, 1) := by decide +kernel
theorem d_Md_asksWaiting_64 : decode prog_14_method_33_code 64 = .ok (.aload_n 0, 1) := by decide +kernel
theorem d_Md_asksWaiting_65 : decode prog_14_method_33_code 65 = .ok (.getfield 86, 3) := by decide +kernel
theorem d_Md_asksWaiting_68 : decode prog_14_method_33_code 68 = .ok (.if_icmp .lt 7, 3) := by decide +kernel
theorem d_Md_asksWaiting_71 : decode prog_14_method_33_code 71 = .ok (.iload_n 2, 1) := by decide +kernel
theorem d_Md_asksWaiting_72 : decode prog_14_method_33_code 72 = .ok (.ifCond .ne 7, 3) := by decide +kernel
theorem d_Md_asksWaiting_75 : decode prog_14_method_33_code 75 = .ok (.iconst 1, 1) := by decide +kernel
theorem d_Md_asksWaiting_76 : decode prog_14_method_33_code 76 = .ok (.goto 4, 3) := by decide +kernel
theorem d_Md_asksWaiting_79 : decode prog_14_method_33_code 79 = .ok (.iconst 0, 1) := by decide +kernel
theorem d_Md_asksWaiting_80 : decode prog_14_method_33_code 80 = .ok (.istore 5, 2) := by decide +kernel
theorem d_Md_asksWaiting_82 : decode prog_14_method_33_code 82 = .ok (.iload 5, 2) := by decide +kernel
theorem d_Md_asksWaiting_84 : decode prog_14_method_33_code 84 = .ok (.ifCond .eq 59, 3) := by decide +kernel
theorem d_Md_asksWaiting_87 : decode prog_14_method_33_code 87 = .ok (.aload_n 0, 1) := by decide +kernel
theorem d_Md_asksWaiting_88 : decode prog_14_method_33_code 88 = .ok (.getfield 40, 3) := by decide +kernel
theorem d_Md_asksWaiting_91 : decode prog_14_method_33_code 91 = .ok (.iload_n 3, 1) := by decide +kernel
theorem d_Md_asksWaiting_92 : decode prog_14_method_33_code 92 = .ok (.iaload, 1) := by decide +kernel
theorem d_Md_asksWaiting_93 : decode prog_14_method_33_code 93 = .ok (.ifCond .ge 50, 3) := by decide +kernel
theorem d_Md_asksWaiting_96 : decode prog_14_method_33_code 96 = .ok (.iload_n 1, 1) := by decide +kernel
theorem d_Md_asksWaiting_97 : decode prog_14_method_33_code 97 = .ok (.i2l, 1) := by decide +kernel
theorem d_Md_asksWaiting_98 : decode prog_14_method_33_code 98 = .ok (.iload 4, 2) := by decide +kernel
theorem d_Md_asksWaiting_100 : decode prog_14_method_33_code 100 = .ok (.i2l, 1) := by decide +kernel
theorem d_Md_asksWaiting_101 : decode prog_14_method_33_code 101 = .ok (.iload 4, 2) := by decide +kernel
theorem d_Md_asksWaiting_103 : decode prog_14_method_33_code 103 = .ok (.aload_n 0, 1) := by decide +kernel
theorem d_Md_asksWaiting_104 : decode prog_14_method_33_code 104 = .ok (.getfield 11, 3) := by decide +kernel
theorem d_Md_asksWaiting_107 : decode prog_14_method_33_code 107 = .ok (.iconst 5, 1) := by decide +kernel
theorem d_Md_asksWaiting_108 : decode prog_14_method_33_code 108 = .ok (.iload_n 3, 1) := by decide +kernel
theorem d_Md_asksWaiting_109 : decode prog_14_method_33_code 109 = .ok (.imul, 1) := by decide +kernel
theorem d_Md_asksWaiting_110 : decode prog_14_method_33_code 110 = .ok (.iconst 2, 1) := by decide +kernel
theorem d_Md_asksWaiting_111 : decode prog_14_method_33_code 111 = .ok (.iadd, 1) := by decide +kernel
theorem d_Md_asksWaiting_112 : decode prog_14_method_33_code 112 = .ok (.iaload, 1) := by decide +kernel
theorem d_Md_asksWaiting_113 : decode prog_14_method_33_code 113 = .ok (.iadd, 1) := by decide +kernel
theorem d_Md_asksWaiting_114 : decode prog_14_method_33_code 114 = .ok (.iconst 1, 1) := by decide +kernel
theorem d_Md_asksWaiting_115 : decode prog_14_method_33_code 115 = .ok (.isub, 1) := by decide +kernel
theorem d_Md_asksWaiting_116 : decode prog_14_method_33_code 116 = .ok (.i2l, 1) := by decide +kernel
theorem d_Md_asksWaiting_117 : decode prog_14_method_33_code 117 = .ok (.invokestatic 89, 3) := by decide +kernel
theorem d_Md_asksWaiting_120 : decode prog_14_method_33_code 120 = .ok (.ifCond .eq 23, 3) := by decide +kernel
theorem d_Md_asksWaiting_123 : decode prog_14_method_33_code 123 = .ok (.aload_n 0, 1) := by decide +kernel
theorem d_Md_asksWaiting_124 : decode prog_14_method_33_code 124 = .ok (.getfield 43, 3) := by decide +kernel
theorem d_Md_asksWaiting_127 : decode prog_14_method_33_code 127 = .ok (.aload_n 0, 1) := by decide +kernel
theorem d_Md_asksWaiting_128 : decode prog_14_method_33_code 128 = .ok (.getfield 214, 3) := by decide +kernel
theorem d_Md_asksWaiting_131 : decode prog_14_method_33_code 131 = .ok (.iload_n 3, 1) := by decide +kernel
theorem d_Md_asksWaiting_132 : decode prog_14_method_33_code 132 = .ok (.iastore, 1) := by decide +kernel
theorem d_Md_asksWaiting_133 : decode prog_14_method_33_code 133 = .ok (.aload_n 0, 1) := by decide +kernel
theorem d_Md_asksWaiting_134 : decode prog_14_method_33_code 134 = .ok (.dup, 1) := by decide +kernel
theorem d_Md_asksWaiting_135 : decode prog_14_method_33_code 135 = .ok (.getfield 214, 3) := by decide +kernel
theorem d_Md_asksWaiting_138 : decode prog_14_method_33_code 138 = .ok (.iconst 1, 1) := by decide +kernel
theorem d_Md_asksWaiting_139 : decode prog_14_method_33_code 139 = .ok (.iadd, 1) := by decide +kernel
theorem d_Md_asksWaiting_140 : decode prog_14_method_33_code 140 = .ok (.putfield 214, 3) := by decide +kernel
theorem d_Md_asksWaiting_143 : decode prog_14_method_33_code 143 = .ok (.iinc 3 1, 3) := by decide +kernel
theorem d_Md_asksWaiting_146 : decode prog_14_method_33_code 146 = .ok (.goto (-139), 3) := by decide +kernel
theorem d_Md_asksWaiting_149 : decode prog_14_method_33_code 149 = .ok (.iconst 0, 1) := by decide +kernel
theorem d_Md_asksWaiting_150 : decode prog_14_method_33_code 150 = .ok (.istore_n 3, 1) := by decide +kernel
theorem d_Md_asksWaiting_151 : decode prog_14_method_33_code 151 = .ok (.iload_n 3, 1) := by decide +kernel
theorem d_Md_asksWaiting_152 : decode prog_14_method_33_code 152 = .ok (.aload_n 0, 1) := by decide +kernel
theorem d_Md_asksWaiting_153 : decode prog_14_method_33_code 153 = .ok (.getfield 214, 3) := by decide +kernel
theorem d_Md_asksWaiting_156 : decode prog_14_method_33_code 156 = .ok (.if_icmp .ge 30, 3) := by decide +kernel
theorem d_Md_asksWaiting_159 : decode prog_14_method_33_code 159 = .ok (.aload_n 0, 1) := by decide +kernel
theorem d_Md_asksWaiting_160 : decode prog_14_method_33_code 160 = .ok (.getfield 46, 3) := by decide +kernel
theorem d_Md_asksWaiting_163 : decode prog_14_method_33_code 163 = .ok (.iload_n 3, 1) := by decide +kernel
theorem d_Md_asksWaiting_164 : decode prog_14_method_33_code 164 = .ok (.aload_n 0, 1) := by decide +kernel
theorem d_Md_asksWaiting_165 : decode prog_14_method_33_code 165 = .ok (.aload_n 0, 1) := by decide +kernel
theorem d_Md_asksWaiting_166 : decode prog_14_method_33_code 166 = .ok (.getfield 43, 3) := by decide +kernel
theorem d_Md_asksWaiting_169 : decode prog_14_method_33_code 169 = .ok (.iload_n 3, 1) := by decide +kernel
theorem d_Md_asksWaiting_170 : decode prog_14_method_33_code 170 = .ok (.iaload, 1) := by decide +kernel
theorem d_Md_asksWaiting_171 : decode prog_14_method_33_code 171 = .ok (.iload_n 1, 1) := by decide +kernel
theorem d_Md_asksWaiting_172 : decode prog_14_method_33_code 172 = .ok (.aload_n 0, 1) := by decide +kernel
theorem d_Md_asksWaiting_173 : decode prog_14_method_33_code 173 = .ok (.getfield 214, 3) := by decide +kernel
theorem d_Md_asksWaiting_176 : decode prog_14_method_33_code 176 = .ok (.invokevirtual 197, 3) := by decide +kernel
theorem d_Md_asksWaiting_179 : decode prog_14_method_33_code 179 = .ok (.iastore, 1) := by decide +kernel
theorem d_Md_asksWaiting_180 : decode prog_14_method_33_code 180 = .ok (.iinc 3 1, 3) := by decide +kernel
theorem d_Md_asksWaiting_183 : decode prog_14_method_33_code 183 = .ok (.goto (-32), 3) := by decide +kernel
theorem d_Md_asksWaiting_186 : decode prog_14_method_33_code 186 = .ok (.return_, 1) := by decide +kernel
theorem d_Md_atPlace_0 : decode prog_14_method_34_code 0 = .ok (.iconst 0, 1) := by decide +kernel
theorem d_Md_atPlace_1 : decode prog_14_method_34_code 1 = .ok (.istore_n 2, 1) := by decide +kernel
theorem d_Md_atPlace_2 : decode prog_14_method_34_code 2 = .ok (.iload_n 2, 1) := by decide +kernel
theorem d_Md_atPlace_3 : decode prog_14_method_34_code 3 = .ok (.aload_n 0, 1) := by decide +kernel
theorem d_Md_atPlace_4 : decode prog_14_method_34_code 4 = .ok (.getfield 214, 3) := by decide +kernel
theorem d_Md_atPlace_7 : decode prog_14_method_34_code 7 = .ok (.if_icmp .ge 87, 3) := by decide +kernel
theorem d_Md_atPlace_10 : decode prog_14_method_34_code 10 = .ok (.iconst 0, 1) := by decide +kernel
theorem d_Md_atPlace_11 : decode prog_14_method_34_code 11 = .ok (.istore_n 3, 1) := by decide +kernel
theorem d_Md_atPlace_12 : decode prog_14_method_34_code 12 = .ok (.iconst 0, 1) := by decide +kernel
theorem d_Md_atPlace_13 : decode prog_14_method_34_code 13 = .ok (.istore 4, 2) := by decide +kernel
theorem d_Md_atPlace_15 : decode prog_14_method_34_code 15 = .ok (.iload 4, 2) := by decide +kernel
theorem d_Md_atPlace_17 : decode prog_14_method_34_code 17 = .ok (.aload_n 0, 1) := by decide +kernel
theorem d_Md_atPlace_18 : decode prog_14_method_34_code 18 = .ok (.getfield 214, 3) := by decide +kernel
theorem d_Md_atPlace_21 : decode prog_14_method_34_code 21 = .ok (.if_icmp .ge 55, 3) := by decide +kernel
theorem d_Md_atPlace_24 : decode prog_14_method_34_code 24 = .ok (.iload_n 3, 1) := by decide +kernel
theorem d_Md_atPlace_25 : decode prog_14_method_34_code 25 = .ok (.aload_n 0, 1) := by decide +kernel
theorem d_Md_atPlace_26 : decode prog_14_method_34_code 26 = .ok (.getfield 46, 3) := by decide +kernel
theorem d_Md_atPlace_29 : decode prog_14_method_34_code 29 = .ok (.iload 4, 2) := by decide +kernel
theorem d_Md_atPlace_31 : decode prog_14_method_34_code 31 = .ok (.iaload, 1) := by decide +kernel
theorem d_Md_atPlace_32 : decode prog_14_method_34_code 32 = .ok (.aload_n 0, 1) := by decide +kernel
theorem d_Md_atPlace_33 : decode prog_14_method_34_code 33 = .ok (.getfield 46, 3) := by decide +kernel
theorem d_Md_atPlace_36 : decode prog_14_method_34_code 36 = .ok (.iload_n 2, 1) := by decide +kernel
theorem d_Md_atPlace_37 : decode prog_14_method_34_code 37 = .ok (.iaload, 1) := by decide +kernel
theorem d_Md_atPlace_38 : decode prog_14_method_34_code 38 = .ok (.if_icmp .lt 25, 3) := by decide +kernel
theorem d_Md_atPlace_41 : decode prog_14_method_34_code 41 = .ok (.aload_n 0, 1) := by decide +kernel
theorem d_Md_atPlace_42 : decode prog_14_method_34_code 42 = .ok (.getfield 46, 3) := by decide +kernel
theorem d_Md_atPlace_45 : decode prog_14_method_34_code 45 = .ok (.iload 4, 2) := by decide +kernel
theorem d_Md_atPlace_47 : decode prog_14_method_34_code 47 = .ok (.iaload, 1) := by decide +kernel
theorem d_Md_atPlace_48 : decode prog_14_method_34_code 48 = .ok (.aload_n 0, 1) := by decide +kernel
theorem d_Md_atPlace_49 : decode prog_14_method_34_code 49 = .ok (.getfield 46, 3) := by decide +kernel
theorem d_Md_atPlace_52 : decode prog_14_method_34_code 52 = .ok (.iload_n 2, 1) := by decide +kernel
theorem d_Md_atPlace_53 : decode prog_14_method_34_code 53 = .ok (.iaload, 1) := by decide +kernel
theorem d_Md_atPlace_54 : decode prog_14_method_34_code 54 = .ok (.if_icmp .ne 13, 3) := by decide +kernel
theorem d_Md_atPlace_57 : decode prog_14_method_34_code 57 = .ok (.iload 4, 2) := by decide +kernel
theorem d_Md_atPlace_59 : decode prog_14_method_34_code 59 = .ok (.iload_n 2, 1) := by decide +kernel
theorem d_Md_atPlace_60 : decode prog_14_method_34_code 60 = .ok (.if_icmp .ge 7, 3) := by decide +kernel
theorem d_Md_atPlace_63 : decode prog_14_method_34_code 63 = .ok (.iconst 1, 1) := by decide +kernel
theorem d_Md_atPlace_64 : decode prog_14_method_34_code 64 = .ok (.goto 4, 3) := by decide +kernel
theorem d_Md_atPlace_67 : decode prog_14_method_34_code 67 = .ok (.iconst 0, 1) := by decide +kernel
theorem d_Md_atPlace_68 : decode prog_14_method_34_code 68 = .ok (.iadd, 1) := by decide +kernel
theorem d_Md_atPlace_69 : decode prog_14_method_34_code 69 = .ok (.istore_n 3, 1) := by decide +kernel
theorem d_Md_atPlace_70 : decode prog_14_method_34_code 70 = .ok (.iinc 4 1, 3) := by decide +kernel
theorem d_Md_atPlace_73 : decode prog_14_method_34_code 73 = .ok (.goto (-58), 3) := by decide +kernel
theorem d_Md_atPlace_76 : decode prog_14_method_34_code 76 = .ok (.iload_n 3, 1) := by decide +kernel
theorem d_Md_atPlace_77 : decode prog_14_method_34_code 77 = .ok (.iload_n 1, 1) := by decide +kernel
theorem d_Md_atPlace_78 : decode prog_14_method_34_code 78 = .ok (.if_icmp .ne 10, 3) := by decide +kernel
theorem d_Md_atPlace_81 : decode prog_14_method_34_code 81 = .ok (.aload_n 0, 1) := by decide +kernel
theorem d_Md_atPlace_82 : decode prog_14_method_34_code 82 = .ok (.getfield 43, 3) := by decide +kernel
theorem d_Md_atPlace_85 : decode prog_14_method_34_code 85 = .ok (.iload_n 2, 1) := by decide +kernel
theorem d_Md_atPlace_86 : decode prog_14_method_34_code 86 = .ok (.iaload, 1) := by decide +kernel
theorem d_Md_atPlace_87 : decode prog_14_method_34_code 87 = .ok (.ireturn, 1) := by decide +kernel
theorem d_Md_atPlace_88 : decode prog_14_method_34_code 88 = .ok (.iinc 2 1, 3) := by decide +kernel
theorem d_Md_atPlace_91 : decode prog_14_method_34_code 91 = .ok (.goto (-89), 3) := by decide +kernel
theorem d_Md_atPlace_94 : decode prog_14_method_34_code 94 = .ok (.bipush (-2), 2) := by decide +kernel
theorem d_Md_atPlace_96 : decode prog_14_method_34_code 96 = .ok (.ireturn, 1) := by decide +kernel
theorem d_Md_strokes_0 : decode prog_14_method_35_code 0 = .ok (.aload_n 0, 1) := by decide +kernel
theorem d_Md_strokes_1 : decode prog_14_method_35_code 1 = .ok (.iload_n 1, 1) := by decide +kernel
theorem d_Md_strokes_2 : decode prog_14_method_35_code 2 = .ok (.iconst 1, 1) := by decide +kernel
theorem d_Md_strokes_3 : decode prog_14_method_35_code 3 = .ok (.invokevirtual 217, 3) := by decide +kernel
theorem d_Md_strokes_6 : decode prog_14_method_35_code 6 = .ok (.aload_n 0, 1) := by decide +kernel
theorem d_Md_strokes_7 : decode prog_14_method_35_code 7 = .ok (.getfield 214, 3) := by decide +kernel
theorem d_Md_strokes_10 : decode prog_14_method_35_code 10 = .ok (.ifCond .ne 8, 3) := by decide +kernel
theorem d_Md_strokes_13 : decode prog_14_method_35_code 13 = .ok (.bipush (-2), 2) := by decide +kernel
theorem d_Md_strokes_15 : decode prog_14_method_35_code 15 = .ok (.goto 13, 3) := by decide +kernel
theorem d_Md_strokes_18 : decode prog_14_method_35_code 18 = .ok (.aload_n 0, 1) := by decide +kernel
theorem d_Md_strokes_19 : decode prog_14_method_35_code 19 = .ok (.aload_n 0, 1) := by decide +kernel
theorem d_Md_strokes_20 : decode prog_14_method_35_code 20 = .ok (.getfield 214, 3) := by decide +kernel
theorem d_Md_strokes_23 : decode prog_14_method_35_code 23 = .ok (.iconst 1, 1) := by decide +kernel
theorem d_Md_strokes_24 : decode prog_14_method_35_code 24 = .ok (.isub, 1) := by decide +kernel
theorem d_Md_strokes_25 : decode prog_14_method_35_code 25 = .ok (.invokevirtual 221, 3) := by decide +kernel
theorem d_Md_strokes_28 : decode prog_14_method_35_code 28 = .ok (.istore_n 2, 1) := by decide +kernel
theorem d_Md_strokes_29 : decode prog_14_method_35_code 29 = .ok (.aload_n 0, 1) := by decide +kernel
theorem d_Md_strokes_30 : decode prog_14_method_35_code 30 = .ok (.iload_n 1, 1) := by decide +kernel
theorem d_Md_strokes_31 : decode prog_14_method_35_code 31 = .ok (.iconst 0, 1) := by decide +kernel
theorem d_Md_strokes_32 : decode prog_14_method_35_code 32 = .ok (.invokevirtual 217, 3) := by decide +kernel
theorem d_Md_strokes_35 : decode prog_14_method_35_code 35 = .ok (.aload_n 0, 1) := by decide +kernel
theorem d_Md_strokes_36 : decode prog_14_method_35_code 36 = .ok (.aload_n 0, 1) := by decide +kernel
theorem d_Md_strokes_37 : decode prog_14_method_35_code 37 = .ok (.getfield 214, 3) := by decide +kernel
theorem d_Md_strokes_40 : decode prog_14_method_35_code 40 = .ok (.aload_n 0, 1) := by decide +kernel
theorem d_Md_strokes_41 : decode prog_14_method_35_code 41 = .ok (.getfield 211, 3) := by decide +kernel
theorem d_Md_strokes_44 : decode prog_14_method_35_code 44 = .ok (.if_icmp .le 10, 3) := by decide +kernel
theorem d_Md_strokes_47 : decode prog_14_method_35_code 47 = .ok (.aload_n 0, 1) := by decide +kernel
theorem d_Md_strokes_48 : decode prog_14_method_35_code 48 = .ok (.getfield 214, 3) := by decide +kernel
theorem d_Md_strokes_51 : decode prog_14_method_35_code 51 = .ok (.goto 7, 3) := by decide +kernel
theorem d_Md_strokes_54 : decode prog_14_method_35_code 54 = .ok (.aload_n 0, 1) := by decide +kernel
theorem d_Md_strokes_55 : decode prog_14_method_35_code 55 = .ok (.getfield 211, 3) := by decide +kernel
theorem d_Md_strokes_58 : decode prog_14_method_35_code 58 = .ok (.putfield 211, 3) := by decide +kernel
theorem d_Md_strokes_61 : decode prog_14_method_35_code 61 = .ok (.aload_n 0, 1) := by decide +kernel
theorem d_Md_strokes_62 : decode prog_14_method_35_code 62 = .ok (.getfield 36, 3) := by decide +kernel
theorem d_Md_strokes_65 : decode prog_14_method_35_code 65 = .ok (.ifCond .lt 19, 3) := by decide +kernel
theorem d_Md_strokes_68 : decode prog_14_method_35_code 68 = .ok (.aload_n 0, 1) := by decide +kernel
theorem d_Md_strokes_69 : decode prog_14_method_35_code 69 = .ok (.getfield 36, 3) := by decide +kernel
theorem d_Md_strokes_72 : decode prog_14_method_35_code 72 = .ok (.aload_n 0, 1) := by decide +kernel
theorem d_Md_strokes_73 : decode prog_14_method_35_code 73 = .ok (.getfield 214, 3) := by decide +kernel
theorem d_Md_strokes_76 : decode prog_14_method_35_code 76 = .ok (.iconst 1, 1) := by decide +kernel
theorem d_Md_strokes_77 : decode prog_14_method_35_code 77 = .ok (.isub, 1) := by decide +kernel
theorem d_Md_strokes_78 : decode prog_14_method_35_code 78 = .ok (.imul, 1) := by decide +kernel
theorem d_Md_strokes_79 : decode prog_14_method_35_code 79 = .ok (.iconst 4, 1) := by decide +kernel
theorem d_Md_strokes_80 : decode prog_14_method_35_code 80 = .ok (.idiv, 1) := by decide +kernel
theorem d_Md_strokes_81 : decode prog_14_method_35_code 81 = .ok (.goto 23, 3) := by decide +kernel
theorem d_Md_strokes_84 : decode prog_14_method_35_code 84 = .ok (.aload_n 0, 1) := by decide +kernel
theorem d_Md_strokes_85 : decode prog_14_method_35_code 85 = .ok (.getfield 214, 3) := by decide +kernel
theorem d_Md_strokes_88 : decode prog_14_method_35_code 88 = .ok (.iconst 2, 1) := by decide +kernel
theorem d_Md_strokes_89 : decode prog_14_method_35_code 89 = .ok (.irem, 1) := by decide +kernel
theorem d_Md_strokes_90 : decode prog_14_method_35_code 90 = .ok (.iconst 1, 1) := by decide +kernel
theorem d_Md_strokes_91 : decode prog_14_method_35_code 91 = .ok (.if_icmp .ne 12, 3) := by decide +kernel
theorem d_Md_strokes_94 : decode prog_14_method_35_code 94 = .ok (.aload_n 0, 1) := by decide +kernel
theorem d_Md_strokes_95 : decode prog_14_method_35_code 95 = .ok (.getfield 214, 3) := by decide +kernel
theorem d_Md_strokes_98 : decode prog_14_method_35_code 98 = .ok (.iconst 2, 1) := by decide +kernel
theorem d_Md_strokes_99 : decode prog_14_method_35_code 99 = .ok (.idiv, 1) := by decide +kernel
theorem d_Md_strokes_100 : decode prog_14_method_35_code 100 = .ok (.goto 4, 3) := by decide +kernel
theorem d_Md_strokes_103 : decode prog_14_method_35_code 103 = .ok (.iconst (-1), 1) := by decide +kernel
theorem d_Md_strokes_104 : decode prog_14_method_35_code 104 = .ok (.istore_n 3, 1) := by decide +kernel
theorem d_Md_strokes_105 : decode prog_14_method_35_code 105 = .ok (.aload_n 0, 1) := by decide +kernel
theorem d_Md_strokes_106 : decode prog_14_method_35_code 106 = .ok (.getfield 214, 3) := by decide +kernel
theorem d_Md_strokes_109 : decode prog_14_method_35_code 109 = .ok (.ifCond .eq 7, 3) := by decide +kernel
theorem d_Md_strokes_112 : decode prog_14_method_35_code 112 = .ok (.iload_n 3, 1) := by decide +kernel
theorem d_Md_strokes_113 : decode prog_14_method_35_code 113 = .ok (.ifCond .ge 8, 3) := by decide +kernel
theorem d_Md_strokes_116 : decode prog_14_method_35_code 116 = .ok (.bipush (-2), 2) := by decide +kernel
theorem d_Md_strokes_118 : decode prog_14_method_35_code 118 = .ok (.goto 8, 3) := by decide +kernel
theorem d_Md_strokes_121 : decode prog_14_method_35_code 121 = .ok (.aload_n 0, 1) := by decide +kernel
theorem d_Md_strokes_122 : decode prog_14_method_35_code 122 = .ok (.iload_n 3, 1) := by decide +kernel
theorem d_Md_strokes_123 : decode prog_14_method_35_code 123 = .ok (.invokevirtual 221, 3) := by decide +kernel
theorem d_Md_strokes_126 : decode prog_14_method_35_code 126 = .ok (.istore 4, 2) := by decide +kernel
theorem d_Md_strokes_128 : decode prog_14_method_35_code 128 = .ok (.iload_n 2, 1) := by decide +kernel
theorem d_Md_strokes_129 : decode prog_14_method_35_code 129 = .ok (.ifCond .lt 10, 3) := by decide +kernel
theorem d_Md_strokes_132 : decode prog_14_method_35_code 132 = .ok (.aload_n 0, 1) := by decide +kernel
theorem d_Md_strokes_133 : decode prog_14_method_35_code 133 = .ok (.getfield 40, 3) := by decide +kernel
theorem d_Md_strokes_136 : decode prog_14_method_35_code 136 = .ok (.iload_n 2, 1) := by decide +kernel
theorem d_Md_strokes_137 : decode prog_14_method_35_code 137 = .ok (.iload_n 1, 1) := by decide +kernel
theorem d_Md_strokes_138 : decode prog_14_method_35_code 138 = .ok (.iastore, 1) := by decide +kernel
theorem d_Md_strokes_139 : decode prog_14_method_35_code 139 = .ok (.iload 4, 2) := by decide +kernel
theorem d_Md_strokes_141 : decode prog_14_method_35_code 141 = .ok (.ifCond .lt 11, 3) := by decide +kernel
theorem d_Md_strokes_144 : decode prog_14_method_35_code 144 = .ok (.aload_n 0, 1) := by decide +kernel
theorem d_Md_strokes_145 : decode prog_14_method_35_code 145 = .ok (.getfield 40, 3) := by decide +kernel
theorem d_Md_strokes_148 : decode prog_14_method_35_code 148 = .ok (.iload 4, 2) := by decide +kernel
theorem d_Md_strokes_150 : decode prog_14_method_35_code 150 = .ok (.iload_n 1, 1) := by decide +kernel
theorem d_Md_strokes_151 : decode prog_14_method_35_code 151 = .ok (.iastore, 1) := by decide +kernel
theorem d_Md_strokes_152 : decode prog_14_method_35_code 152 = .ok (.iload 4, 2) := by decide +kernel
theorem d_Md_strokes_154 : decode prog_14_method_35_code 154 = .ok (.ireturn, 1) := by decide +kernel
theorem d_Md_goes_0 : decode prog_14_method_36_code 0 = .ok (.iconst 0, 1) := by decide +kernel
theorem d_Md_goes_1 : decode prog_14_method_36_code 1 = .ok (.istore_n 2, 1) := by decide +kernel
theorem d_Md_goes_2 : decode prog_14_method_36_code 2 = .ok (.iload_n 2, 1) := by decide +kernel
theorem d_Md_goes_3 : decode prog_14_method_36_code 3 = .ok (.iload_n 1, 1) := by decide +kernel
theorem d_Md_goes_4 : decode prog_14_method_36_code 4 = .ok (.if_icmp .ge 15, 3) := by decide +kernel
theorem d_Md_goes_7 : decode prog_14_method_36_code 7 = .ok (.aload_n 0, 1) := by decide +kernel
theorem d_Md_goes_8 : decode prog_14_method_36_code 8 = .ok (.iload_n 2, 1) := by decide +kernel
theorem d_Md_goes_9 : decode prog_14_method_36_code 9 = .ok (.invokevirtual 224, 3) := by decide +kernel
theorem d_Md_goes_12 : decode prog_14_method_36_code 12 = .ok (.pop, 1) := by decide +kernel
theorem d_Md_goes_13 : decode prog_14_method_36_code 13 = .ok (.iinc 2 1, 3) := by decide +kernel
theorem d_Md_goes_16 : decode prog_14_method_36_code 16 = .ok (.goto (-14), 3) := by decide +kernel
theorem d_Md_goes_19 : decode prog_14_method_36_code 19 = .ok (.return_, 1) := by decide +kernel
theorem d_Md_isN_0 : decode prog_14_method_37_code 0 = .ok (.iload_n 0, 1) := by decide +kernel
theorem d_Md_isN_1 : decode prog_14_method_37_code 1 = .ok (.i2l, 1) := by decide +kernel
theorem d_Md_isN_2 : decode prog_14_method_37_code 2 = .ok (.lconst 0, 1) := by decide +kernel
theorem d_Md_isN_3 : decode prog_14_method_37_code 3 = .ok (.ldc2_w 93, 3) := by decide +kernel
theorem d_Md_isN_6 : decode prog_14_method_37_code 6 = .ok (.invokestatic 89, 3) := by decide +kernel
theorem d_Md_isN_9 : decode prog_14_method_37_code 9 = .ok (.ireturn, 1) := by decide +kernel
theorem d_Md_inMany_0 : decode prog_14_method_38_code 0 = .ok (.iconst 0, 1) := by decide +kernel
theorem d_Md_inMany_1 : decode prog_14_method_38_code 1 = .ok (.istore_n 1, 1) := by decide +kernel
theorem d_Md_inMany_2 : decode prog_14_method_38_code 2 = .ok (.iconst 0, 1) := by decide +kernel
theorem d_Md_inMany_3 : decode prog_14_method_38_code 3 = .ok (.istore_n 2, 1) := by decide +kernel
theorem d_Md_inMany_4 : decode prog_14_method_38_code 4 = .ok (.iload_n 2, 1) := by decide +kernel
theorem d_Md_inMany_5 : decode prog_14_method_38_code 5 = .ok (.aload_n 0, 1) := by decide +kernel
theorem d_Md_inMany_6 : decode prog_14_method_38_code 6 = .ok (.getfield 86, 3) := by decide +kernel
theorem d_Md_inMany_9 : decode prog_14_method_38_code 9 = .ok (.if_icmp .ge 26, 3) := by decide +kernel
theorem d_Md_inMany_12 : decode prog_14_method_38_code 12 = .ok (.iload_n 1, 1) := by decide +kernel
theorem d_Md_inMany_13 : decode prog_14_method_38_code 13 = .ok (.aload_n 0, 1) := by decide +kernel
theorem d_Md_inMany_14 : decode prog_14_method_38_code 14 = .ok (.getfield 40, 3) := by decide +kernel
theorem d_Md_inMany_17 : decode prog_14_method_38_code 17 = .ok (.iload_n 2, 1) := by decide +kernel
theorem d_Md_inMany_18 : decode prog_14_method_38_code 18 = .ok (.iaload, 1) := by decide +kernel
theorem d_Md_inMany_19 : decode prog_14_method_38_code 19 = .ok (.ifCond .lt 7, 3) := by decide +kernel
theorem d_Md_inMany_22 : decode prog_14_method_38_code 22 = .ok (.iconst 1, 1) := by decide +kernel
theorem d_Md_inMany_23 : decode prog_14_method_38_code 23 = .ok (.goto 4, 3) := by decide +kernel
theorem d_Md_inMany_26 : decode prog_14_method_38_code 26 = .ok (.iconst 0, 1) := by decide +kernel
theorem d_Md_inMany_27 : decode prog_14_method_38_code 27 = .ok (.iadd, 1) := by decide +kernel
theorem d_Md_inMany_28 : decode prog_14_method_38_code 28 = .ok (.istore_n 1, 1) := by decide +kernel
theorem d_Md_inMany_29 : decode prog_14_method_38_code 29 = .ok (.iinc 2 1, 3) := by decide +kernel
theorem d_Md_inMany_32 : decode prog_14_method_38_code 32 = .ok (.goto (-28), 3) := by decide +kernel
theorem d_Md_inMany_35 : decode prog_14_method_38_code 35 = .ok (.iload_n 1, 1) := by decide +kernel
theorem d_Md_inMany_36 : decode prog_14_method_38_code 36 = .ok (.ireturn, 1) := by decide +kernel
theorem d_Md_enters_0 : decode prog_14_method_39_code 0 = .ok (.aload_n 0, 1) := by decide +kernel
theorem d_Md_enters_1 : decode prog_14_method_39_code 1 = .ok (.iload_n 1, 1) := by decide +kernel
theorem d_Md_enters_2 : decode prog_14_method_39_code 2 = .ok (.i2l, 1) := by decide +kernel
theorem d_Md_enters_3 : decode prog_14_method_39_code 3 = .ok (.invokevirtual 114, 3) := by decide +kernel
theorem d_Md_enters_6 : decode prog_14_method_39_code 6 = .ok (.ifCond .eq 10, 3) := by decide +kernel
theorem d_Md_enters_9 : decode prog_14_method_39_code 9 = .ok (.iload_n 2, 1) := by decide +kernel
theorem d_Md_enters_10 : decode prog_14_method_39_code 10 = .ok (.invokestatic 227, 3) := by decide +kernel
theorem d_Md_enters_13 : decode prog_14_method_39_code 13 = .ok (.ifCond .ne 5, 3) := by decide +kernel
theorem d_Md_enters_16 : decode prog_14_method_39_code 16 = .ok (.iconst (-1), 1) := by decide +kernel
theorem d_Md_enters_17 : decode prog_14_method_39_code 17 = .ok (.ireturn, 1) := by decide +kernel
theorem d_Md_enters_18 : decode prog_14_method_39_code 18 = .ok (.aload_n 0, 1) := by decide +kernel
theorem d_Md_enters_19 : decode prog_14_method_39_code 19 = .ok (.invokevirtual 230, 3) := by decide +kernel
theorem d_Md_enters_22 : decode prog_14_method_39_code 22 = .ok (.aload_n 0, 1) := by decide +kernel
theorem d_Md_enters_23 : decode prog_14_method_39_code 23 = .ok (.iload_n 2, 1) := by decide +kernel
theorem d_Md_enters_24 : decode prog_14_method_39_code 24 = .ok (.invokevirtual 233, 3) := by decide +kernel
theorem d_Md_enters_27 : decode prog_14_method_39_code 27 = .ok (.aload_n 0, 1) := by decide +kernel
theorem d_Md_enters_28 : decode prog_14_method_39_code 28 = .ok (.getfield 40, 3) := by decide +kernel
theorem d_Md_enters_31 : decode prog_14_method_39_code 31 = .ok (.iload_n 1, 1) := by decide +kernel
theorem d_Md_enters_32 : decode prog_14_method_39_code 32 = .ok (.iaload, 1) := by decide +kernel
theorem d_Md_enters_33 : decode prog_14_method_39_code 33 = .ok (.ireturn, 1) := by decide +kernel
theorem d_Md_stroke_0 : decode prog_14_method_40_code 0 = .ok (.iload_n 1, 1) := by decide +kernel
theorem d_Md_stroke_1 : decode prog_14_method_40_code 1 = .ok (.i2l, 1) := by decide +kernel
theorem d_Md_stroke_2 : decode prog_14_method_40_code 2 = .ok (.lconst 0, 1) := by decide +kernel
theorem d_Md_stroke_3 : decode prog_14_method_40_code 3 = .ok (.ldc2_w 97, 3) := by decide +kernel
theorem d_Md_stroke_6 : decode prog_14_method_40_code 6 = .ok (.invokestatic 89, 3) := by decide +kernel
theorem d_Md_stroke_9 : decode prog_14_method_40_code 9 = .ok (.ifCond .eq 13, 3) := by decide +kernel
theorem d_Md_stroke_12 : decode prog_14_method_40_code 12 = .ok (.iload_n 2, 1) := by decide +kernel
theorem d_Md_stroke_13 : decode prog_14_method_40_code 13 = .ok (.i2l, 1) := by decide +kernel
theorem d_Md_stroke_14 : decode prog_14_method_40_code 14 = .ok (.lconst 0, 1) := by decide +kernel
theorem d_Md_stroke_15 : decode prog_14_method_40_code 15 = .ok (.lconst 1, 1) := by decide +kernel
theorem d_Md_stroke_16 : decode prog_14_method_40_code 16 = .ok (.invokestatic 89, 3) := by decide +kernel
theorem d_Md_stroke_19 : decode prog_14_method_40_code 19 = .ok (.ifCond .ne 5, 3) := by decide +kernel
theorem d_Md_stroke_22 : decode prog_14_method_40_code 22 = .ok (.iconst (-1), 1) := by decide +kernel
theorem d_Md_stroke_23 : decode prog_14_method_40_code 23 = .ok (.ireturn, 1) := by decide +kernel
theorem d_Md_stroke_24 : decode prog_14_method_40_code 24 = .ok (.aload_n 0, 1) := by decide +kernel
theorem d_Md_stroke_25 : decode prog_14_method_40_code 25 = .ok (.invokevirtual 230, 3) := by decide +kernel
theorem d_Md_stroke_28 : decode prog_14_method_40_code 28 = .ok (.aload_n 0, 1) := by decide +kernel
theorem d_Md_stroke_29 : decode prog_14_method_40_code 29 = .ok (.iload_n 1, 1) := by decide +kernel
theorem d_Md_stroke_30 : decode prog_14_method_40_code 30 = .ok (.invokevirtual 233, 3) := by decide +kernel
theorem d_Md_stroke_33 : decode prog_14_method_40_code 33 = .ok (.aload_n 0, 1) := by decide +kernel
theorem d_Md_stroke_34 : decode prog_14_method_40_code 34 = .ok (.iload_n 1, 1) := by decide +kernel
theorem d_Md_stroke_35 : decode prog_14_method_40_code 35 = .ok (.iconst 0, 1) := by decide +kernel
theorem d_Md_stroke_36 : decode prog_14_method_40_code 36 = .ok (.invokevirtual 217, 3) := by decide +kernel
theorem d_Md_stroke_39 : decode prog_14_method_40_code 39 = .ok (.aload_n 0, 1) := by decide +kernel
theorem d_Md_stroke_40 : decode prog_14_method_40_code 40 = .ok (.getfield 214, 3) := by decide +kernel
theorem d_Md_stroke_43 : decode prog_14_method_40_code 43 = .ok (.istore_n 3, 1) := by decide +kernel
theorem d_Md_stroke_44 : decode prog_14_method_40_code 44 = .ok (.aload_n 0, 1) := by decide +kernel
theorem d_Md_stroke_45 : decode prog_14_method_40_code 45 = .ok (.iload_n 1, 1) := by decide +kernel
theorem d_Md_stroke_46 : decode prog_14_method_40_code 46 = .ok (.invokevirtual 224, 3) := by decide +kernel
theorem d_Md_stroke_49 : decode prog_14_method_40_code 49 = .ok (.istore 4, 2) := by decide +kernel
theorem d_Md_stroke_51 : decode prog_14_method_40_code 51 = .ok (.iload_n 2, 1) := by decide +kernel
theorem d_Md_stroke_52 : decode prog_14_method_40_code 52 = .ok (.ifCond .ne 8, 3) := by decide +kernel
theorem d_Md_stroke_55 : decode prog_14_method_40_code 55 = .ok (.iload 4, 2) := by decide +kernel
theorem d_Md_stroke_57 : decode prog_14_method_40_code 57 = .ok (.goto 4, 3) := by decide +kernel
theorem d_Md_stroke_60 : decode prog_14_method_40_code 60 = .ok (.iload_n 3, 1) := by decide +kernel
theorem d_Md_stroke_61 : decode prog_14_method_40_code 61 = .ok (.ireturn, 1) := by decide +kernel
theorem d_Md_day_0 : decode prog_14_method_41_code 0 = .ok (.iload_n 1, 1) := by decide +kernel
theorem d_Md_day_1 : decode prog_14_method_41_code 1 = .ok (.invokestatic 227, 3) := by decide +kernel
theorem d_Md_day_4 : decode prog_14_method_41_code 4 = .ok (.ifCond .eq 15, 3) := by decide +kernel
theorem d_Md_day_7 : decode prog_14_method_41_code 7 = .ok (.iload_n 2, 1) := by decide +kernel
theorem d_Md_day_8 : decode prog_14_method_41_code 8 = .ok (.i2l, 1) := by decide +kernel
theorem d_Md_day_9 : decode prog_14_method_41_code 9 = .ok (.lconst 0, 1) := by decide +kernel
theorem d_Md_day_10 : decode prog_14_method_41_code 10 = .ok (.ldc2_w 237, 3) := by decide +kernel
theorem d_Md_day_13 : decode prog_14_method_41_code 13 = .ok (.invokestatic 89, 3) := by decide +kernel
theorem d_Md_day_16 : decode prog_14_method_41_code 16 = .ok (.ifCond .ne 5, 3) := by decide +kernel
theorem d_Md_day_19 : decode prog_14_method_41_code 19 = .ok (.iconst (-1), 1) := by decide +kernel
theorem d_Md_day_20 : decode prog_14_method_41_code 20 = .ok (.ireturn, 1) := by decide +kernel
theorem d_Md_day_21 : decode prog_14_method_41_code 21 = .ok (.aload_n 0, 1) := by decide +kernel
theorem d_Md_day_22 : decode prog_14_method_41_code 22 = .ok (.invokevirtual 230, 3) := by decide +kernel
theorem d_Md_day_25 : decode prog_14_method_41_code 25 = .ok (.aload_n 0, 1) := by decide +kernel
theorem d_Md_day_26 : decode prog_14_method_41_code 26 = .ok (.iload_n 1, 1) := by decide +kernel
theorem d_Md_day_27 : decode prog_14_method_41_code 27 = .ok (.invokevirtual 233, 3) := by decide +kernel
theorem d_Md_day_30 : decode prog_14_method_41_code 30 = .ok (.iload_n 2, 1) := by decide +kernel
theorem d_Md_day_31 : decode prog_14_method_41_code 31 = .ok (.ifCond .eq 8, 3) := by decide +kernel
theorem d_Md_day_34 : decode prog_14_method_41_code 34 = .ok (.iload_n 2, 1) := by decide +kernel
theorem d_Md_day_35 : decode prog_14_method_41_code 35 = .ok (.iconst 2, 1) := by decide +kernel
theorem d_Md_day_36 : decode prog_14_method_41_code 36 = .ok (.if_icmp .ne 19, 3) := by decide +kernel
theorem d_Md_day_39 : decode prog_14_method_41_code 39 = .ok (.iload_n 2, 1) := by decide +kernel
theorem d_Md_day_40 : decode prog_14_method_41_code 40 = .ok (.ifCond .ne 10, 3) := by decide +kernel
theorem d_Md_day_43 : decode prog_14_method_41_code 43 = .ok (.aload_n 0, 1) := by decide +kernel
theorem d_Md_day_44 : decode prog_14_method_41_code 44 = .ok (.invokevirtual 239, 3) := by decide +kernel
theorem d_Md_day_47 : decode prog_14_method_41_code 47 = .ok (.goto 7, 3) := by decide +kernel
theorem d_Md_day_50 : decode prog_14_method_41_code 50 = .ok (.aload_n 0, 1) := by decide +kernel
theorem d_Md_day_51 : decode prog_14_method_41_code 51 = .ok (.getfield 211, 3) := by decide +kernel
theorem d_Md_day_54 : decode prog_14_method_41_code 54 = .ok (.ireturn, 1) := by decide +kernel
theorem d_Md_day_55 : decode prog_14_method_41_code 55 = .ok (.iconst 0, 1) := by decide +kernel
theorem d_Md_day_56 : decode prog_14_method_41_code 56 = .ok (.istore_n 3, 1) := by decide +kernel
theorem d_Md_day_57 : decode prog_14_method_41_code 57 = .ok (.iconst 0, 1) := by decide +kernel
theorem d_Md_day_58 : decode prog_14_method_41_code 58 = .ok (.istore 4, 2) := by decide +kernel
theorem d_Md_day_60 : decode prog_14_method_41_code 60 = .ok (.iload 4, 2) := by decide +kernel
theorem d_Md_day_62 : decode prog_14_method_41_code 62 = .ok (.aload_n 0, 1) := by decide +kernel
theorem d_Md_day_63 : decode prog_14_method_41_code 63 = .ok (.getfield 86, 3) := by decide +kernel
theorem d_Md_day_66 : decode prog_14_method_41_code 66 = .ok (.if_icmp .ge 54, 3) := by decide +kernel
theorem d_Md_day_69 : decode prog_14_method_41_code 69 = .ok (.iload_n 3, 1) := by decide +kernel
theorem d_Md_day_70 : decode prog_14_method_41_code 70 = .ok (.aload_n 0, 1) := by decide +kernel
theorem d_Md_day_71 : decode prog_14_method_41_code 71 = .ok (.getfield 40, 3) := by decide +kernel
theorem d_Md_day_74 : decode prog_14_method_41_code 74 = .ok (.iload 4, 2) := by decide +kernel
theorem d_Md_day_76 : decode prog_14_method_41_code 76 = .ok (.iaload, 1) := by decide +kernel
theorem d_Md_day_77 : decode prog_14_method_41_code 77 = .ok (.ifCond .ge 34, 3) := by decide +kernel
theorem d_Md_day_80 : decode prog_14_method_41_code 80 = .ok (.aload_n 0, 1) := by decide +kernel
theorem d_Md_day_81 : decode prog_14_method_41_code 81 = .ok (.getfield 11, 3) := by decide +kernel
theorem d_Md_day_84 : decode prog_14_method_41_code 84 = .ok (.iconst 5, 1) := by decide +kernel
theorem d_Md_day_85 : decode prog_14_method_41_code 85 = .ok (.iload 4, 2) := by decide +kernel
theorem d_Md_day_87 : decode prog_14_method_41_code 87 = .ok (.imul, 1) := by decide +kernel
theorem d_Md_day_88 : decode prog_14_method_41_code 88 = .ok (.iconst 1, 1) := by decide +kernel
theorem d_Md_day_89 : decode prog_14_method_41_code 89 = .ok (.iadd, 1) := by decide +kernel
theorem d_Md_day_90 : decode prog_14_method_41_code 90 = .ok (.iaload, 1) := by decide +kernel
theorem d_Md_day_91 : decode prog_14_method_41_code 91 = .ok (.aload_n 0, 1) := by decide +kernel
theorem d_Md_day_92 : decode prog_14_method_41_code 92 = .ok (.getfield 11, 3) := by decide +kernel
theorem d_Md_day_95 : decode prog_14_method_41_code 95 = .ok (.iconst 5, 1) := by decide +kernel
theorem d_Md_day_96 : decode prog_14_method_41_code 96 = .ok (.iload 4, 2) := by decide +kernel
theorem d_Md_day_98 : decode prog_14_method_41_code 98 = .ok (.imul, 1) := by decide +kernel
theorem d_Md_day_99 : decode prog_14_method_41_code 99 = .ok (.iconst 2, 1) := by decide +kernel
theorem d_Md_day_100 : decode prog_14_method_41_code 100 = .ok (.iadd, 1) := by decide +kernel
theorem d_Md_day_101 : decode prog_14_method_41_code 101 = .ok (.iaload, 1) := by decide +kernel
theorem d_Md_day_102 : decode prog_14_method_41_code 102 = .ok (.iadd, 1) := by decide +kernel
theorem d_Md_day_103 : decode prog_14_method_41_code 103 = .ok (.iload_n 1, 1) := by decide +kernel
theorem d_Md_day_104 : decode prog_14_method_41_code 104 = .ok (.if_icmp .gt 7, 3) := by decide +kernel
theorem d_Md_day_107 : decode prog_14_method_41_code 107 = .ok (.iconst 1, 1) := by decide +kernel
theorem d_Md_day_108 : decode prog_14_method_41_code 108 = .ok (.goto 4, 3) := by decide +kernel
theorem d_Md_day_111 : decode prog_14_method_41_code 111 = .ok (.iconst 0, 1) := by decide +kernel
theorem d_Md_day_112 : decode prog_14_method_41_code 112 = .ok (.iadd, 1) := by decide +kernel
theorem d_Md_day_113 : decode prog_14_method_41_code 113 = .ok (.istore_n 3, 1) := by decide +kernel
theorem d_Md_day_114 : decode prog_14_method_41_code 114 = .ok (.iinc 4 1, 3) := by decide +kernel
theorem d_Md_day_117 : decode prog_14_method_41_code 117 = .ok (.goto (-57), 3) := by decide +kernel
theorem d_Md_day_120 : decode prog_14_method_41_code 120 = .ok (.iload_n 3, 1) := by decide +kernel
theorem d_Md_day_121 : decode prog_14_method_41_code 121 = .ok (.ireturn, 1) := by decide +kernel
theorem d_Md_commonOf_0 : decode prog_14_method_42_code 0 = .ok (.lload_n 0, 1) := by decide +kernel
theorem d_Md_commonOf_1 : decode prog_14_method_42_code 1 = .ok (.lstore 4, 2) := by decide +kernel
theorem d_Md_commonOf_3 : decode prog_14_method_42_code 3 = .ok (.lload_n 2, 1) := by decide +kernel
theorem d_Md_commonOf_4 : decode prog_14_method_42_code 4 = .ok (.lstore 6, 2) := by decide +kernel
theorem d_Md_commonOf_6 : decode prog_14_method_42_code 6 = .ok (.lload 6, 2) := by decide +kernel
theorem d_Md_commonOf_8 : decode prog_14_method_42_code 8 = .ok (.lconst 0, 1) := by decide +kernel
theorem d_Md_commonOf_9 : decode prog_14_method_42_code 9 = .ok (.lcmp, 1) := by decide +kernel
theorem d_Md_commonOf_10 : decode prog_14_method_42_code 10 = .ok (.ifCond .eq 21, 3) := by decide +kernel
theorem d_Md_commonOf_13 : decode prog_14_method_42_code 13 = .ok (.lload 4, 2) := by decide +kernel
theorem d_Md_commonOf_15 : decode prog_14_method_42_code 15 = .ok (.lload 6, 2) := by decide +kernel
theorem d_Md_commonOf_17 : decode prog_14_method_42_code 17 = .ok (.lrem, 1) := by decide +kernel
theorem d_Md_commonOf_18 : decode prog_14_method_42_code 18 = .ok (.lstore 8, 2) := by decide +kernel
theorem d_Md_commonOf_20 : decode prog_14_method_42_code 20 = .ok (.lload 6, 2) := by decide +kernel
theorem d_Md_commonOf_22 : decode prog_14_method_42_code 22 = .ok (.lstore 4, 2) := by decide +kernel
theorem d_Md_commonOf_24 : decode prog_14_method_42_code 24 = .ok (.lload 8, 2) := by decide +kernel
theorem d_Md_commonOf_26 : decode prog_14_method_42_code 26 = .ok (.lstore 6, 2) := by decide +kernel
theorem d_Md_commonOf_28 : decode prog_14_method_42_code 28 = .ok (.goto (-22), 3) := by decide +kernel
theorem d_Md_commonOf_31 : decode prog_14_method_42_code 31 = .ok (.lload 4, 2) := by decide +kernel
theorem d_Md_commonOf_33 : decode prog_14_method_42_code 33 = .ok (.lreturn, 1) := by decide +kernel
theorem d_Md_partOf_0 : decode prog_14_method_43_code 0 = .ok (.lload_n 0, 1) := by decide +kernel
theorem d_Md_partOf_1 : decode prog_14_method_43_code 1 = .ok (.lconst 0, 1) := by decide +kernel
theorem d_Md_partOf_2 : decode prog_14_method_43_code 2 = .ok (.lcmp, 1) := by decide +kernel
theorem d_Md_partOf_3 : decode prog_14_method_43_code 3 = .ok (.ifCond .ne 7, 3) := by decide +kernel
theorem d_Md_partOf_6 : decode prog_14_method_43_code 6 = .ok (.iload 4, 2) := by decide +kernel
theorem d_Md_partOf_8 : decode prog_14_method_43_code 8 = .ok (.i2l, 1) := by decide +kernel
theorem d_Md_partOf_9 : decode prog_14_method_43_code 9 = .ok (.lreturn, 1) := by decide +kernel
theorem d_Md_partOf_10 : decode prog_14_method_43_code 10 = .ok (.lload_n 2, 1) := by decide +kernel
theorem d_Md_partOf_11 : decode prog_14_method_43_code 11 = .ok (.lload_n 0, 1) := by decide +kernel
theorem d_Md_partOf_12 : decode prog_14_method_43_code 12 = .ok (.invokestatic 242, 3) := by decide +kernel
theorem d_Md_partOf_15 : decode prog_14_method_43_code 15 = .ok (.lstore 5, 2) := by decide +kernel
theorem d_Md_partOf_17 : decode prog_14_method_43_code 17 = .ok (.iload 4, 2) := by decide +kernel
theorem d_Md_partOf_19 : decode prog_14_method_43_code 19 = .ok (.ifCond .ne 10, 3) := by decide +kernel
theorem d_Md_partOf_22 : decode prog_14_method_43_code 22 = .ok (.lload_n 0, 1) := by decide +kernel
theorem d_Md_partOf_23 : decode prog_14_method_43_code 23 = .ok (.lload 5, 2) := by decide +kernel
theorem d_Md_partOf_25 : decode prog_14_method_43_code 25 = .ok (.ldiv, 1) := by decide +kernel
theorem d_Md_partOf_26 : decode prog_14_method_43_code 26 = .ok (.goto 7, 3) := by decide +kernel
theorem d_Md_partOf_29 : decode prog_14_method_43_code 29 = .ok (.lload_n 2, 1) := by decide +kernel
theorem d_Md_partOf_30 : decode prog_14_method_43_code 30 = .ok (.lload 5, 2) := by decide +kernel
theorem d_Md_partOf_32 : decode prog_14_method_43_code 32 = .ok (.ldiv, 1) := by decide +kernel
theorem d_Md_partOf_33 : decode prog_14_method_43_code 33 = .ok (.lreturn, 1) := by decide +kernel
theorem d_Md_mean_0 : decode prog_14_method_44_code 0 = .ok (.iload_n 1, 1) := by decide +kernel
theorem d_Md_mean_1 : decode prog_14_method_44_code 1 = .ok (.invokestatic 227, 3) := by decide +kernel
theorem d_Md_mean_4 : decode prog_14_method_44_code 4 = .ok (.ifCond .eq 23, 3) := by decide +kernel
theorem d_Md_mean_7 : decode prog_14_method_44_code 7 = .ok (.iload_n 2, 1) := by decide +kernel
theorem d_Md_mean_8 : decode prog_14_method_44_code 8 = .ok (.i2l, 1) := by decide +kernel
theorem d_Md_mean_9 : decode prog_14_method_44_code 9 = .ok (.lconst 0, 1) := by decide +kernel
theorem d_Md_mean_10 : decode prog_14_method_44_code 10 = .ok (.lconst 1, 1) := by decide +kernel
theorem d_Md_mean_11 : decode prog_14_method_44_code 11 = .ok (.invokestatic 89, 3) := by decide +kernel
theorem d_Md_mean_14 : decode prog_14_method_44_code 14 = .ok (.ifCond .eq 13, 3) := by decide +kernel
theorem d_Md_mean_17 : decode prog_14_method_44_code 17 = .ok (.iload_n 3, 1) := by decide +kernel
theorem d_Md_mean_18 : decode prog_14_method_44_code 18 = .ok (.i2l, 1) := by decide +kernel
theorem d_Md_mean_19 : decode prog_14_method_44_code 19 = .ok (.lconst 0, 1) := by decide +kernel
theorem d_Md_mean_20 : decode prog_14_method_44_code 20 = .ok (.lconst 1, 1) := by decide +kernel
theorem d_Md_mean_21 : decode prog_14_method_44_code 21 = .ok (.invokestatic 89, 3) := by decide +kernel
theorem d_Md_mean_24 : decode prog_14_method_44_code 24 = .ok (.ifCond .ne 7, 3) := by decide +kernel
theorem d_Md_mean_27 : decode prog_14_method_44_code 27 = .ok (.ldc2_w 246, 3) := by decide +kernel
theorem d_Md_mean_30 : decode prog_14_method_44_code 30 = .ok (.lreturn, 1) := by decide +kernel
theorem d_Md_mean_31 : decode prog_14_method_44_code 31 = .ok (.aload_n 0, 1) := by decide +kernel
theorem d_Md_mean_32 : decode prog_14_method_44_code 32 = .ok (.invokevirtual 230, 3) := by decide +kernel
theorem d_Md_mean_35 : decode prog_14_method_44_code 35 = .ok (.aload_n 0, 1) := by decide +kernel
theorem d_Md_mean_36 : decode prog_14_method_44_code 36 = .ok (.iload_n 1, 1) := by decide +kernel
theorem d_Md_mean_37 : decode prog_14_method_44_code 37 = .ok (.invokevirtual 233, 3) := by decide +kernel
theorem d_Md_mean_40 : decode prog_14_method_44_code 40 = .ok (.lconst 0, 1) := by decide +kernel
theorem d_Md_mean_41 : decode prog_14_method_44_code 41 = .ok (.lstore 4, 2) := by decide +kernel
theorem d_Md_mean_43 : decode prog_14_method_44_code 43 = .ok (.iconst 0, 1) := by decide +kernel
theorem d_Md_mean_44 : decode prog_14_method_44_code 44 = .ok (.istore 6, 2) := by decide +kernel
theorem d_Md_mean_46 : decode prog_14_method_44_code 46 = .ok (.iload 6, 2) := by decide +kernel
theorem d_Md_mean_48 : decode prog_14_method_44_code 48 = .ok (.aload_n 0, 1) := by decide +kernel
theorem d_Md_mean_49 : decode prog_14_method_44_code 49 = .ok (.getfield 86, 3) := by decide +kernel
theorem d_Md_mean_52 : decode prog_14_method_44_code 52 = .ok (.if_icmp .ge 63, 3) := by decide +kernel
theorem d_Md_mean_55 : decode prog_14_method_44_code 55 = .ok (.aload_n 0, 1) := by decide +kernel
theorem d_Md_mean_56 : decode prog_14_method_44_code 56 = .ok (.getfield 40, 3) := by decide +kernel
theorem d_Md_mean_59 : decode prog_14_method_44_code 59 = .ok (.iload 6, 2) := by decide +kernel
theorem d_Md_mean_61 : decode prog_14_method_44_code 61 = .ok (.iaload, 1) := by decide +kernel
theorem d_Md_mean_62 : decode prog_14_method_44_code 62 = .ok (.ifCond .lt 47, 3) := by decide +kernel
theorem d_Md_mean_65 : decode prog_14_method_44_code 65 = .ok (.lload 4, 2) := by decide +kernel
theorem d_Md_mean_67 : decode prog_14_method_44_code 67 = .ok (.iload_n 2, 1) := by decide +kernel
theorem d_Md_mean_68 : decode prog_14_method_44_code 68 = .ok (.ifCond .ne 26, 3) := by decide +kernel
theorem d_Md_mean_71 : decode prog_14_method_44_code 71 = .ok (.aload_n 0, 1) := by decide +kernel
theorem d_Md_mean_72 : decode prog_14_method_44_code 72 = .ok (.getfield 40, 3) := by decide +kernel
theorem d_Md_mean_75 : decode prog_14_method_44_code 75 = .ok (.iload 6, 2) := by decide +kernel
theorem d_Md_mean_77 : decode prog_14_method_44_code 77 = .ok (.iaload, 1) := by decide +kernel
theorem d_Md_mean_78 : decode prog_14_method_44_code 78 = .ok (.aload_n 0, 1) := by decide +kernel
theorem d_Md_mean_79 : decode prog_14_method_44_code 79 = .ok (.getfield 11, 3) := by decide +kernel
theorem d_Md_mean_82 : decode prog_14_method_44_code 82 = .ok (.iconst 5, 1) := by decide +kernel
theorem d_Md_mean_83 : decode prog_14_method_44_code 83 = .ok (.iload 6, 2) := by decide +kernel
theorem d_Md_mean_85 : decode prog_14_method_44_code 85 = .ok (.imul, 1) := by decide +kernel
theorem d_Md_mean_86 : decode prog_14_method_44_code 86 = .ok (.iconst 1, 1) := by decide +kernel
theorem d_Md_mean_87 : decode prog_14_method_44_code 87 = .ok (.iadd, 1) := by decide +kernel
theorem d_Md_mean_88 : decode prog_14_method_44_code 88 = .ok (.iaload, 1) := by decide +kernel
theorem d_Md_mean_89 : decode prog_14_method_44_code 89 = .ok (.isub, 1) := by decide +kernel
theorem d_Md_mean_90 : decode prog_14_method_44_code 90 = .ok (.i2l, 1) := by decide +kernel
theorem d_Md_mean_91 : decode prog_14_method_44_code 91 = .ok (.goto 15, 3) := by decide +kernel
theorem d_Md_mean_94 : decode prog_14_method_44_code 94 = .ok (.aload_n 0, 1) := by decide +kernel
theorem d_Md_mean_95 : decode prog_14_method_44_code 95 = .ok (.getfield 11, 3) := by decide +kernel
theorem d_Md_mean_98 : decode prog_14_method_44_code 98 = .ok (.iconst 5, 1) := by decide +kernel
theorem d_Md_mean_99 : decode prog_14_method_44_code 99 = .ok (.iload 6, 2) := by decide +kernel
theorem d_Md_mean_101 : decode prog_14_method_44_code 101 = .ok (.imul, 1) := by decide +kernel
theorem d_Md_mean_102 : decode prog_14_method_44_code 102 = .ok (.iconst 0, 1) := by decide +kernel
theorem d_Md_mean_103 : decode prog_14_method_44_code 103 = .ok (.iadd, 1) := by decide +kernel
theorem d_Md_mean_104 : decode prog_14_method_44_code 104 = .ok (.iaload, 1) := by decide +kernel
theorem d_Md_mean_105 : decode prog_14_method_44_code 105 = .ok (.i2l, 1) := by decide +kernel
theorem d_Md_mean_106 : decode prog_14_method_44_code 106 = .ok (.ladd, 1) := by decide +kernel
theorem d_Md_mean_107 : decode prog_14_method_44_code 107 = .ok (.lstore 4, 2) := by decide +kernel
theorem d_Md_mean_109 : decode prog_14_method_44_code 109 = .ok (.iinc 6 1, 3) := by decide +kernel
theorem d_Md_mean_112 : decode prog_14_method_44_code 112 = .ok (.goto (-66), 3) := by decide +kernel
theorem d_Md_mean_115 : decode prog_14_method_44_code 115 = .ok (.aload_n 0, 1) := by decide +kernel
theorem d_Md_mean_116 : decode prog_14_method_44_code 116 = .ok (.invokevirtual 239, 3) := by decide +kernel
theorem d_Md_mean_119 : decode prog_14_method_44_code 119 = .ok (.ifCond .ne 9, 3) := by decide +kernel
theorem d_Md_mean_122 : decode prog_14_method_44_code 122 = .ok (.ldc2_w 248, 3) := by decide +kernel
theorem d_Md_mean_125 : decode prog_14_method_44_code 125 = .ok (.goto 14, 3) := by decide +kernel
theorem d_Md_mean_128 : decode prog_14_method_44_code 128 = .ok (.lload 4, 2) := by decide +kernel
theorem d_Md_mean_130 : decode prog_14_method_44_code 130 = .ok (.aload_n 0, 1) := by decide +kernel
theorem d_Md_mean_131 : decode prog_14_method_44_code 131 = .ok (.invokevirtual 239, 3) := by decide +kernel
theorem d_Md_mean_134 : decode prog_14_method_44_code 134 = .ok (.i2l, 1) := by decide +kernel
theorem d_Md_mean_135 : decode prog_14_method_44_code 135 = .ok (.iload_n 3, 1) := by decide +kernel
theorem d_Md_mean_136 : decode prog_14_method_44_code 136 = .ok (.invokestatic 250, 3) := by decide +kernel
theorem d_Md_mean_139 : decode prog_14_method_44_code 139 = .ok (.lreturn, 1) := by decide +kernel
theorem d_Md_priceOf_0 : decode prog_14_method_45_code 0 = .ok (.iconst 0, 1) := by decide +kernel
theorem d_Md_priceOf_1 : decode prog_14_method_45_code 1 = .ok (.istore_n 2, 1) := by decide +kernel
theorem d_Md_priceOf_2 : decode prog_14_method_45_code 2 = .ok (.iconst 0, 1) := by decide +kernel
theorem d_Md_priceOf_3 : decode prog_14_method_45_code 3 = .ok (.istore_n 3, 1) := by decide +kernel
theorem d_Md_priceOf_4 : decode prog_14_method_45_code 4 = .ok (.iload_n 3, 1) := by decide +kernel
theorem d_Md_priceOf_5 : decode prog_14_method_45_code 5 = .ok (.aload_n 0, 1) := by decide +kernel
theorem d_Md_priceOf_6 : decode prog_14_method_45_code 6 = .ok (.getfield 86, 3) := by decide +kernel
theorem d_Md_priceOf_9 : decode prog_14_method_45_code 9 = .ok (.if_icmp .ge 34, 3) := by decide +kernel
theorem d_Md_priceOf_12 : decode prog_14_method_45_code 12 = .ok (.iload_n 2, 1) := by decide +kernel
theorem d_Md_priceOf_13 : decode prog_14_method_45_code 13 = .ok (.iload_n 1, 1) := by decide +kernel
theorem d_Md_priceOf_14 : decode prog_14_method_45_code 14 = .ok (.iload_n 3, 1) := by decide +kernel
theorem d_Md_priceOf_15 : decode prog_14_method_45_code 15 = .ok (.invokestatic 131, 3) := by decide +kernel
theorem d_Md_priceOf_18 : decode prog_14_method_45_code 18 = .ok (.ifCond .eq 16, 3) := by decide +kernel
theorem d_Md_priceOf_21 : decode prog_14_method_45_code 21 = .ok (.aload_n 0, 1) := by decide +kernel
theorem d_Md_priceOf_22 : decode prog_14_method_45_code 22 = .ok (.getfield 11, 3) := by decide +kernel
theorem d_Md_priceOf_25 : decode prog_14_method_45_code 25 = .ok (.iconst 5, 1) := by decide +kernel
theorem d_Md_priceOf_26 : decode prog_14_method_45_code 26 = .ok (.iload_n 3, 1) := by decide +kernel
theorem d_Md_priceOf_27 : decode prog_14_method_45_code 27 = .ok (.imul, 1) := by decide +kernel
theorem d_Md_priceOf_28 : decode prog_14_method_45_code 28 = .ok (.iconst 4, 1) := by decide +kernel
theorem d_Md_priceOf_29 : decode prog_14_method_45_code 29 = .ok (.iadd, 1) := by decide +kernel
theorem d_Md_priceOf_30 : decode prog_14_method_45_code 30 = .ok (.iaload, 1) := by decide +kernel
theorem d_Md_priceOf_31 : decode prog_14_method_45_code 31 = .ok (.goto 4, 3) := by decide +kernel
theorem d_Md_priceOf_34 : decode prog_14_method_45_code 34 = .ok (.iconst 0, 1) := by decide +kernel
theorem d_Md_priceOf_35 : decode prog_14_method_45_code 35 = .ok (.iadd, 1) := by decide +kernel
theorem d_Md_priceOf_36 : decode prog_14_method_45_code 36 = .ok (.istore_n 2, 1) := by decide +kernel
theorem d_Md_priceOf_37 : decode prog_14_method_45_code 37 = .ok (.iinc 3 1, 3) := by decide +kernel
theorem d_Md_priceOf_40 : decode prog_14_method_45_code 40 = .ok (.goto (-36), 3) := by decide +kernel
theorem d_Md_priceOf_43 : decode prog_14_method_45_code 43 = .ok (.iload_n 2, 1) := by decide +kernel
theorem d_Md_priceOf_44 : decode prog_14_method_45_code 44 = .ok (.ireturn, 1) := by decide +kernel
theorem d_Md_sent_0 : decode prog_14_method_46_code 0 = .ok (.aload_n 0, 1) := by decide +kernel
theorem d_Md_sent_1 : decode prog_14_method_46_code 1 = .ok (.iload_n 1, 1) := by decide +kernel
theorem d_Md_sent_2 : decode prog_14_method_46_code 2 = .ok (.i2l, 1) := by decide +kernel
theorem d_Md_sent_3 : decode prog_14_method_46_code 3 = .ok (.invokevirtual 114, 3) := by decide +kernel
theorem d_Md_sent_6 : decode prog_14_method_46_code 6 = .ok (.ifCond .eq 34, 3) := by decide +kernel
theorem d_Md_sent_9 : decode prog_14_method_46_code 9 = .ok (.iload_n 2, 1) := by decide +kernel
theorem d_Md_sent_10 : decode prog_14_method_46_code 10 = .ok (.ifCond .lt 30, 3) := by decide +kernel
theorem d_Md_sent_13 : decode prog_14_method_46_code 13 = .ok (.iload_n 2, 1) := by decide +kernel
theorem d_Md_sent_14 : decode prog_14_method_46_code 14 = .ok (.bipush 10, 2) := by decide +kernel
theorem d_Md_sent_16 : decode prog_14_method_46_code 16 = .ok (.idiv, 1) := by decide +kernel
theorem d_Md_sent_17 : decode prog_14_method_46_code 17 = .ok (.bipush 30, 2) := by decide +kernel
theorem d_Md_sent_19 : decode prog_14_method_46_code 19 = .ok (.if_icmp .gt 21, 3) := by decide +kernel
theorem d_Md_sent_22 : decode prog_14_method_46_code 22 = .ok (.iload_n 2, 1) := by decide +kernel
theorem d_Md_sent_23 : decode prog_14_method_46_code 23 = .ok (.bipush 10, 2) := by decide +kernel
theorem d_Md_sent_25 : decode prog_14_method_46_code 25 = .ok (.irem, 1) := by decide +kernel
theorem d_Md_sent_26 : decode prog_14_method_46_code 26 = .ok (.iconst 1, 1) := by decide +kernel
theorem d_Md_sent_27 : decode prog_14_method_46_code 27 = .ok (.if_icmp .gt 13, 3) := by decide +kernel
theorem d_Md_sent_30 : decode prog_14_method_46_code 30 = .ok (.iload_n 3, 1) := by decide +kernel
theorem d_Md_sent_31 : decode prog_14_method_46_code 31 = .ok (.i2l, 1) := by decide +kernel
theorem d_Md_sent_32 : decode prog_14_method_46_code 32 = .ok (.lconst 0, 1) := by decide +kernel
theorem d_Md_sent_33 : decode prog_14_method_46_code 33 = .ok (.lconst 1, 1) := by decide +kernel
theorem d_Md_sent_34 : decode prog_14_method_46_code 34 = .ok (.invokestatic 89, 3) := by decide +kernel
theorem d_Md_sent_37 : decode prog_14_method_46_code 37 = .ok (.ifCond .ne 5, 3) := by decide +kernel
theorem d_Md_sent_40 : decode prog_14_method_46_code 40 = .ok (.iconst (-1), 1) := by decide +kernel
theorem d_Md_sent_41 : decode prog_14_method_46_code 41 = .ok (.ireturn, 1) := by decide +kernel
theorem d_Md_sent_42 : decode prog_14_method_46_code 42 = .ok (.iload_n 2, 1) := by decide +kernel
theorem d_Md_sent_43 : decode prog_14_method_46_code 43 = .ok (.bipush 10, 2) := by decide +kernel
theorem d_Md_sent_45 : decode prog_14_method_46_code 45 = .ok (.idiv, 1) := by decide +kernel
theorem d_Md_sent_46 : decode prog_14_method_46_code 46 = .ok (.istore 4, 2) := by decide +kernel
theorem d_Md_sent_48 : decode prog_14_method_46_code 48 = .ok (.bipush (-2), 2) := by decide +kernel
theorem d_Md_sent_50 : decode prog_14_method_46_code 50 = .ok (.istore 5, 2) := by decide +kernel
theorem d_Md_sent_52 : decode prog_14_method_46_code 52 = .ok (.iconst 0, 1) := by decide +kernel
theorem d_Md_sent_53 : decode prog_14_method_46_code 53 = .ok (.istore 6, 2) := by decide +kernel
theorem d_Md_sent_55 : decode prog_14_method_46_code 55 = .ok (.iload 6, 2) := by decide +kernel
theorem d_Md_sent_57 : decode prog_14_method_46_code 57 = .ok (.iconst 1, 1) := by decide +kernel
theorem d_Md_sent_58 : decode prog_14_method_46_code 58 = .ok (.aload_n 0, 1) := by decide +kernel
theorem d_Md_sent_59 : decode prog_14_method_46_code 59 = .ok (.getfield 86, 3) := by decide +kernel
theorem d_Md_sent_62 : decode prog_14_method_46_code 62 = .ok (.ishl, 1) := by decide +kernel
theorem d_Md_sent_63 : decode prog_14_method_46_code 63 = .ok (.if_icmp .ge 130, 3) := by decide +kernel
theorem d_Md_sent_66 : decode prog_14_method_46_code 66 = .ok (.iload 6, 2) := by decide +kernel
theorem d_Md_sent_68 : decode prog_14_method_46_code 68 = .ok (.iload_n 1, 1) := by decide +kernel
theorem d_Md_sent_69 : decode prog_14_method_46_code 69 = .ok (.invokestatic 131, 3) := by decide +kernel
theorem d_Md_sent_72 : decode prog_14_method_46_code 72 = .ok (.ifCond .eq 6, 3) := by decide +kernel
theorem d_Md_sent_75 : decode prog_14_method_46_code 75 = .ok (.goto 112, 3) := by decide +kernel
theorem d_Md_sent_78 : decode prog_14_method_46_code 78 = .ok (.iload 5, 2) := by decide +kernel
theorem d_Md_sent_80 : decode prog_14_method_46_code 80 = .ok (.ifCond .ge 7, 3) := by decide +kernel
theorem d_Md_sent_83 : decode prog_14_method_46_code 83 = .ok (.iconst (-1), 1) := by decide +kernel
theorem d_Md_sent_84 : decode prog_14_method_46_code 84 = .ok (.goto 16, 3) := by decide +kernel
theorem d_Md_sent_87 : decode prog_14_method_46_code 87 = .ok (.aload_n 0, 1) := by decide +kernel
theorem d_Md_sent_88 : decode prog_14_method_46_code 88 = .ok (.iload 6, 2) := by decide +kernel
theorem d_Md_sent_90 : decode prog_14_method_46_code 90 = .ok (.invokevirtual 254, 3) := by decide +kernel
theorem d_Md_sent_93 : decode prog_14_method_46_code 93 = .ok (.aload_n 0, 1) := by decide +kernel
theorem d_Md_sent_94 : decode prog_14_method_46_code 94 = .ok (.iload 5, 2) := by decide +kernel
theorem d_Md_sent_96 : decode prog_14_method_46_code 96 = .ok (.invokevirtual 254, 3) := by decide +kernel
theorem d_Md_sent_99 : decode prog_14_method_46_code 99 = .ok (.isub, 1) := by decide +kernel
theorem d_Md_sent_100 : decode prog_14_method_46_code 100 = .ok (.istore 7, 2) := by decide +kernel
theorem d_Md_sent_102 : decode prog_14_method_46_code 102 = .ok (.iload 7, 2) := by decide +kernel
theorem d_Md_sent_104 : decode prog_14_method_46_code 104 = .ok (.ifCond .lt 21, 3) := by decide +kernel
theorem d_Md_sent_107 : decode prog_14_method_46_code 107 = .ok (.iload 7, 2) := by decide +kernel
theorem d_Md_sent_109 : decode prog_14_method_46_code 109 = .ok (.ifCond .ne 78, 3) := by decide +kernel
theorem d_Md_sent_112 : decode prog_14_method_46_code 112 = .ok (.iload 6, 2) := by decide +kernel
theorem d_Md_sent_114 : decode prog_14_method_46_code 114 = .ok (.invokestatic 257, 3) := by decide +kernel
theorem d_Md_sent_117 : decode prog_14_method_46_code 117 = .ok (.iload 5, 2) := by decide +kernel
theorem d_Md_sent_119 : decode prog_14_method_46_code 119 = .ok (.invokestatic 257, 3) := by decide +kernel
theorem d_Md_sent_122 : decode prog_14_method_46_code 122 = .ok (.if_icmp .ge 65, 3) := by decide +kernel
theorem d_Md_sent_125 : decode prog_14_method_46_code 125 = .ok (.aload_n 0, 1) := by decide +kernel
theorem d_Md_sent_126 : decode prog_14_method_46_code 126 = .ok (.invokevirtual 230, 3) := by decide +kernel
theorem d_Md_sent_129 : decode prog_14_method_46_code 129 = .ok (.aload_n 0, 1) := by decide +kernel
theorem d_Md_sent_130 : decode prog_14_method_46_code 130 = .ok (.dup, 1) := by decide +kernel
theorem d_Md_sent_131 : decode prog_14_method_46_code 131 = .ok (.getfield 202, 3) := by decide +kernel
theorem d_Md_sent_134 : decode prog_14_method_46_code 134 = .ok (.iload 6, 2) := by decide +kernel
theorem d_Md_sent_136 : decode prog_14_method_46_code 136 = .ok (.iconst (-1), 1) := by decide +kernel
theorem d_Md_sent_137 : decode prog_14_method_46_code 137 = .ok (.ixor, 1) := by decide +kernel
theorem d_Md_sent_138 : decode prog_14_method_46_code 138 = .ok (.iand, 1) := by decide +kernel
theorem d_Md_sent_139 : decode prog_14_method_46_code 139 = .ok (.putfield 202, 3) := by decide +kernel
theorem d_Md_sent_142 : decode prog_14_method_46_code 142 = .ok (.aload_n 0, 1) := by decide +kernel
theorem d_Md_sent_143 : decode prog_14_method_46_code 143 = .ok (.iload 4, 2) := by decide +kernel
theorem d_Md_sent_145 : decode prog_14_method_46_code 145 = .ok (.iconst 1, 1) := by decide +kernel
theorem d_Md_sent_146 : decode prog_14_method_46_code 146 = .ok (.iadd, 1) := by decide +kernel
theorem d_Md_sent_147 : decode prog_14_method_46_code 147 = .ok (.invokevirtual 233, 3) := by decide +kernel
theorem d_Md_sent_150 : decode prog_14_method_46_code 150 = .ok (.aload_n 0, 1) := by decide +kernel
theorem d_Md_sent_151 : decode prog_14_method_46_code 151 = .ok (.getfield 40, 3) := by decide +kernel
theorem d_Md_sent_154 : decode prog_14_method_46_code 154 = .ok (.iload_n 1, 1) := by decide +kernel
theorem d_Md_sent_155 : decode prog_14_method_46_code 155 = .ok (.iaload, 1) := by decide +kernel
theorem d_Md_sent_156 : decode prog_14_method_46_code 156 = .ok (.iload 4, 2) := by decide +kernel
theorem d_Md_sent_158 : decode prog_14_method_46_code 158 = .ok (.if_icmp .eq 20, 3) := by decide +kernel
theorem d_Md_sent_161 : decode prog_14_method_46_code 161 = .ok (.iload_n 2, 1) := by decide +kernel
theorem d_Md_sent_162 : decode prog_14_method_46_code 162 = .ok (.bipush 10, 2) := by decide +kernel
theorem d_Md_sent_164 : decode prog_14_method_46_code 164 = .ok (.irem, 1) := by decide +kernel
theorem d_Md_sent_165 : decode prog_14_method_46_code 165 = .ok (.iconst 1, 1) := by decide +kernel
theorem d_Md_sent_166 : decode prog_14_method_46_code 166 = .ok (.if_icmp .ne 17, 3) := by decide +kernel
theorem d_Md_sent_169 : decode prog_14_method_46_code 169 = .ok (.aload_n 0, 1) := by decide +kernel
theorem d_Md_sent_170 : decode prog_14_method_46_code 170 = .ok (.getfield 40, 3) := by decide +kernel
theorem d_Md_sent_173 : decode prog_14_method_46_code 173 = .ok (.iload_n 1, 1) := by decide +kernel
theorem d_Md_sent_174 : decode prog_14_method_46_code 174 = .ok (.iaload, 1) := by decide +kernel
theorem d_Md_sent_175 : decode prog_14_method_46_code 175 = .ok (.ifCond .lt 8, 3) := by decide +kernel
theorem d_Md_sent_178 : decode prog_14_method_46_code 178 = .ok (.iload 6, 2) := by decide +kernel
theorem d_Md_sent_180 : decode prog_14_method_46_code 180 = .ok (.goto 5, 3) := by decide +kernel
theorem d_Md_sent_183 : decode prog_14_method_46_code 183 = .ok (.iload 5, 2) := by decide +kernel
theorem d_Md_sent_185 : decode prog_14_method_46_code 185 = .ok (.istore 5, 2) := by decide +kernel
theorem d_Md_sent_187 : decode prog_14_method_46_code 187 = .ok (.iinc 6 1, 3) := by decide +kernel
theorem d_Md_sent_190 : decode prog_14_method_46_code 190 = .ok (.goto (-135), 3) := by decide +kernel
theorem d_Md_sent_193 : decode prog_14_method_46_code 193 = .ok (.iload 5, 2) := by decide +kernel
theorem d_Md_sent_195 : decode prog_14_method_46_code 195 = .ok (.ifCond .lt 8, 3) := by decide +kernel
theorem d_Md_sent_198 : decode prog_14_method_46_code 198 = .ok (.iload_n 3, 1) := by decide +kernel
theorem d_Md_sent_199 : decode prog_14_method_46_code 199 = .ok (.iconst 1, 1) := by decide +kernel
theorem d_Md_sent_200 : decode prog_14_method_46_code 200 = .ok (.if_icmp .ne 8, 3) := by decide +kernel
theorem d_Md_sent_203 : decode prog_14_method_46_code 203 = .ok (.iload 5, 2) := by decide +kernel
theorem d_Md_sent_205 : decode prog_14_method_46_code 205 = .ok (.goto 9, 3) := by decide +kernel
theorem d_Md_sent_208 : decode prog_14_method_46_code 208 = .ok (.aload_n 0, 1) := by decide +kernel
theorem d_Md_sent_209 : decode prog_14_method_46_code 209 = .ok (.iload 5, 2) := by decide +kernel
theorem d_Md_sent_211 : decode prog_14_method_46_code 211 = .ok (.invokevirtual 254, 3) := by decide +kernel
theorem d_Md_sent_214 : decode prog_14_method_46_code 214 = .ok (.ireturn, 1) := by decide +kernel
theorem d_Md_brought_0 : decode prog_14_method_47_code 0 = .ok (.aload_n 0, 1) := by decide +kernel
theorem d_Md_brought_1 : decode prog_14_method_47_code 1 = .ok (.iload_n 1, 1) := by decide +kernel
theorem d_Md_brought_2 : decode prog_14_method_47_code 2 = .ok (.i2l, 1) := by decide +kernel
theorem d_Md_brought_3 : decode prog_14_method_47_code 3 = .ok (.invokevirtual 114, 3) := by decide +kernel
theorem d_Md_brought_6 : decode prog_14_method_47_code 6 = .ok (.ifCond .eq 25, 3) := by decide +kernel
theorem d_Md_brought_9 : decode prog_14_method_47_code 9 = .ok (.iload_n 2, 1) := by decide +kernel
theorem d_Md_brought_10 : decode prog_14_method_47_code 10 = .ok (.i2l, 1) := by decide +kernel
theorem d_Md_brought_11 : decode prog_14_method_47_code 11 = .ok (.lconst 0, 1) := by decide +kernel
theorem d_Md_brought_12 : decode prog_14_method_47_code 12 = .ok (.ldc2_w 97, 3) := by decide +kernel
theorem d_Md_brought_15 : decode prog_14_method_47_code 15 = .ok (.invokestatic 89, 3) := by decide +kernel
theorem d_Md_brought_18 : decode prog_14_method_47_code 18 = .ok (.ifCond .eq 13, 3) := by decide +kernel
theorem d_Md_brought_21 : decode prog_14_method_47_code 21 = .ok (.iload_n 3, 1) := by decide +kernel
theorem d_Md_brought_22 : decode prog_14_method_47_code 22 = .ok (.i2l, 1) := by decide +kernel
theorem d_Md_brought_23 : decode prog_14_method_47_code 23 = .ok (.lconst 0, 1) := by decide +kernel
theorem d_Md_brought_24 : decode prog_14_method_47_code 24 = .ok (.lconst 1, 1) := by decide +kernel
theorem d_Md_brought_25 : decode prog_14_method_47_code 25 = .ok (.invokestatic 89, 3) := by decide +kernel
theorem d_Md_brought_28 : decode prog_14_method_47_code 28 = .ok (.ifCond .ne 5, 3) := by decide +kernel
theorem d_Md_brought_31 : decode prog_14_method_47_code 31 = .ok (.iconst (-1), 1) := by decide +kernel
theorem d_Md_brought_32 : decode prog_14_method_47_code 32 = .ok (.ireturn, 1) := by decide +kernel
theorem d_Md_brought_33 : decode prog_14_method_47_code 33 = .ok (.iconst 0, 1) := by decide +kernel
theorem d_Md_brought_34 : decode prog_14_method_47_code 34 = .ok (.istore 4, 2) := by decide +kernel
theorem d_Md_brought_36 : decode prog_14_method_47_code 36 = .ok (.iload 4, 2) := by decide +kernel
theorem d_Md_brought_38 : decode prog_14_method_47_code 38 = .ok (.iconst 3, 1) := by decide +kernel
theorem d_Md_brought_39 : decode prog_14_method_47_code 39 = .ok (.if_icmp .gt 115, 3) := by decide +kernel
theorem d_Md_brought_42 : decode prog_14_method_47_code 42 = .ok (.bipush 100, 2) := by decide +kernel
theorem d_Md_brought_44 : decode prog_14_method_47_code 44 = .ok (.istore 5, 2) := by decide +kernel
theorem d_Md_brought_46 : decode prog_14_method_47_code 46 = .ok (.iload 5, 2) := by decide +kernel
theorem d_Md_brought_48 : decode prog_14_method_47_code 48 = .ok (.sipush 220, 3) := by decide +kernel
theorem d_Md_brought_51 : decode prog_14_method_47_code 51 = .ok (.if_icmp .gt 97, 3) := by decide +kernel
theorem d_Md_brought_54 : decode prog_14_method_47_code 54 = .ok (.iload 4, 2) := by decide +kernel
theorem d_Md_brought_56 : decode prog_14_method_47_code 56 = .ok (.ifCond .gt 10, 3) := by decide +kernel
theorem d_Md_brought_59 : decode prog_14_method_47_code 59 = .ok (.iload 5, 2) := by decide +kernel
theorem d_Md_brought_61 : decode prog_14_method_47_code 61 = .ok (.bipush 100, 2) := by decide +kernel
theorem d_Md_brought_63 : decode prog_14_method_47_code 63 = .ok (.if_icmp .ne 85, 3) := by decide +kernel
theorem d_Md_brought_66 : decode prog_14_method_47_code 66 = .ok (.aload_n 0, 1) := by decide +kernel
theorem d_Md_brought_67 : decode prog_14_method_47_code 67 = .ok (.invokevirtual 230, 3) := by decide +kernel
theorem d_Md_brought_70 : decode prog_14_method_47_code 70 = .ok (.aload_n 0, 1) := by decide +kernel
theorem d_Md_brought_71 : decode prog_14_method_47_code 71 = .ok (.iload_n 2, 1) := by decide +kernel
theorem d_Md_brought_72 : decode prog_14_method_47_code 72 = .ok (.invokevirtual 233, 3) := by decide +kernel
theorem d_Md_brought_75 : decode prog_14_method_47_code 75 = .ok (.iconst 0, 1) := by decide +kernel
theorem d_Md_brought_76 : decode prog_14_method_47_code 76 = .ok (.istore 6, 2) := by decide +kernel
theorem d_Md_brought_78 : decode prog_14_method_47_code 78 = .ok (.iload 6, 2) := by decide +kernel
theorem d_Md_brought_80 : decode prog_14_method_47_code 80 = .ok (.iload 4, 2) := by decide +kernel
theorem d_Md_brought_82 : decode prog_14_method_47_code 82 = .ok (.if_icmp .ge 24, 3) := by decide +kernel
theorem d_Md_brought_85 : decode prog_14_method_47_code 85 = .ok (.aload_n 0, 1) := by decide +kernel
theorem d_Md_brought_86 : decode prog_14_method_47_code 86 = .ok (.aload_n 0, 1) := by decide +kernel
theorem d_Md_brought_87 : decode prog_14_method_47_code 87 = .ok (.getfield 86, 3) := by decide +kernel
theorem d_Md_brought_90 : decode prog_14_method_47_code 90 = .ok (.iload 6, 2) := by decide +kernel
theorem d_Md_brought_92 : decode prog_14_method_47_code 92 = .ok (.iadd, 1) := by decide +kernel
theorem d_Md_brought_93 : decode prog_14_method_47_code 93 = .ok (.iload 5, 2) := by decide +kernel
theorem d_Md_brought_95 : decode prog_14_method_47_code 95 = .ok (.iload_n 2, 1) := by decide +kernel
theorem d_Md_brought_96 : decode prog_14_method_47_code 96 = .ok (.iconst 1, 1) := by decide +kernel
theorem d_Md_brought_97 : decode prog_14_method_47_code 97 = .ok (.invokevirtual 102, 3) := by decide +kernel
theorem d_Md_brought_100 : decode prog_14_method_47_code 100 = .ok (.iinc 6 1, 3) := by decide +kernel
theorem d_Md_brought_103 : decode prog_14_method_47_code 103 = .ok (.goto (-25), 3) := by decide +kernel
theorem d_Md_brought_106 : decode prog_14_method_47_code 106 = .ok (.aload_n 0, 1) := by decide +kernel
theorem d_Md_brought_107 : decode prog_14_method_47_code 107 = .ok (.iload 4, 2) := by decide +kernel
theorem d_Md_brought_109 : decode prog_14_method_47_code 109 = .ok (.putfield 208, 3) := by decide +kernel
theorem d_Md_brought_112 : decode prog_14_method_47_code 112 = .ok (.aload_n 0, 1) := by decide +kernel
theorem d_Md_brought_113 : decode prog_14_method_47_code 113 = .ok (.iload_n 2, 1) := by decide +kernel
theorem d_Md_brought_114 : decode prog_14_method_47_code 114 = .ok (.invokevirtual 224, 3) := by decide +kernel
theorem d_Md_brought_117 : decode prog_14_method_47_code 117 = .ok (.iload_n 1, 1) := by decide +kernel
theorem d_Md_brought_118 : decode prog_14_method_47_code 118 = .ok (.if_icmp .ne 24, 3) := by decide +kernel
theorem d_Md_brought_121 : decode prog_14_method_47_code 121 = .ok (.iload_n 3, 1) := by decide +kernel
theorem d_Md_brought_122 : decode prog_14_method_47_code 122 = .ok (.ifCond .ne 8, 3) := by decide +kernel
theorem d_Md_brought_125 : decode prog_14_method_47_code 125 = .ok (.iload 4, 2) := by decide +kernel
theorem d_Md_brought_127 : decode prog_14_method_47_code 127 = .ok (.goto 14, 3) := by decide +kernel
theorem d_Md_brought_130 : decode prog_14_method_47_code 130 = .ok (.iload 4, 2) := by decide +kernel
theorem d_Md_brought_132 : decode prog_14_method_47_code 132 = .ok (.ifCond .ne 7, 3) := by decide +kernel
theorem d_Md_brought_135 : decode prog_14_method_47_code 135 = .ok (.iconst 0, 1) := by decide +kernel
theorem d_Md_brought_136 : decode prog_14_method_47_code 136 = .ok (.goto 5, 3) := by decide +kernel
theorem d_Md_brought_139 : decode prog_14_method_47_code 139 = .ok (.iload 5, 2) := by decide +kernel
theorem d_Md_brought_141 : decode prog_14_method_47_code 141 = .ok (.ireturn, 1) := by decide +kernel
theorem d_Md_brought_142 : decode prog_14_method_47_code 142 = .ok (.iinc 5 1, 3) := by decide +kernel
theorem d_Md_brought_145 : decode prog_14_method_47_code 145 = .ok (.goto (-99), 3) := by decide +kernel
theorem d_Md_brought_148 : decode prog_14_method_47_code 148 = .ok (.iinc 4 1, 3) := by decide +kernel
theorem d_Md_brought_151 : decode prog_14_method_47_code 151 = .ok (.goto (-115), 3) := by decide +kernel
theorem d_Md_brought_154 : decode prog_14_method_47_code 154 = .ok (.bipush (-2), 2) := by decide +kernel
theorem d_Md_brought_156 : decode prog_14_method_47_code 156 = .ok (.ireturn, 1) := by decide +kernel
theorem d_Md_wearing_0 : decode prog_14_method_48_code 0 = .ok (.iconst 5, 1) := by decide +kernel
theorem d_Md_wearing_1 : decode prog_14_method_48_code 1 = .ok (.iload_n 1, 1) := by decide +kernel
theorem d_Md_wearing_2 : decode prog_14_method_48_code 2 = .ok (.imul, 1) := by decide +kernel
theorem d_Md_wearing_3 : decode prog_14_method_48_code 3 = .ok (.iconst 3, 1) := by decide +kernel
theorem d_Md_wearing_4 : decode prog_14_method_48_code 4 = .ok (.iadd, 1) := by decide +kernel
theorem d_Md_wearing_5 : decode prog_14_method_48_code 5 = .ok (.istore 4, 2) := by decide +kernel
theorem d_Md_wearing_7 : decode prog_14_method_48_code 7 = .ok (.aload_n 0, 1) := by decide +kernel
theorem d_Md_wearing_8 : decode prog_14_method_48_code 8 = .ok (.getfield 11, 3) := by decide +kernel
theorem d_Md_wearing_11 : decode prog_14_method_48_code 11 = .ok (.iload 4, 2) := by decide +kernel
theorem d_Md_wearing_13 : decode prog_14_method_48_code 13 = .ok (.iaload, 1) := by decide +kernel
theorem d_Md_wearing_14 : decode prog_14_method_48_code 14 = .ok (.istore 5, 2) := by decide +kernel
theorem d_Md_wearing_16 : decode prog_14_method_48_code 16 = .ok (.aload_n 0, 1) := by decide +kernel
theorem d_Md_wearing_17 : decode prog_14_method_48_code 17 = .ok (.getfield 11, 3) := by decide +kernel
theorem d_Md_wearing_20 : decode prog_14_method_48_code 20 = .ok (.iload 4, 2) := by decide +kernel
theorem d_Md_wearing_22 : decode prog_14_method_48_code 22 = .ok (.iload_n 2, 1) := by decide +kernel
theorem d_Md_wearing_23 : decode prog_14_method_48_code 23 = .ok (.iastore, 1) := by decide +kernel
theorem d_Md_wearing_24 : decode prog_14_method_48_code 24 = .ok (.aload_n 0, 1) := by decide +kernel
theorem d_Md_wearing_25 : decode prog_14_method_48_code 25 = .ok (.invokevirtual 230, 3) := by decide +kernel
theorem d_Md_wearing_28 : decode prog_14_method_48_code 28 = .ok (.aload_n 0, 1) := by decide +kernel
theorem d_Md_wearing_29 : decode prog_14_method_48_code 29 = .ok (.iload_n 3, 1) := by decide +kernel
theorem d_Md_wearing_30 : decode prog_14_method_48_code 30 = .ok (.invokevirtual 233, 3) := by decide +kernel
theorem d_Md_wearing_33 : decode prog_14_method_48_code 33 = .ok (.aload_n 0, 1) := by decide +kernel
theorem d_Md_wearing_34 : decode prog_14_method_48_code 34 = .ok (.getfield 11, 3) := by decide +kernel
theorem d_Md_wearing_37 : decode prog_14_method_48_code 37 = .ok (.iload 4, 2) := by decide +kernel
theorem d_Md_wearing_39 : decode prog_14_method_48_code 39 = .ok (.iload 5, 2) := by decide +kernel
theorem d_Md_wearing_41 : decode prog_14_method_48_code 41 = .ok (.iastore, 1) := by decide +kernel
theorem d_Md_wearing_42 : decode prog_14_method_48_code 42 = .ok (.aload_n 0, 1) := by decide +kernel
theorem d_Md_wearing_43 : decode prog_14_method_48_code 43 = .ok (.getfield 40, 3) := by decide +kernel
theorem d_Md_wearing_46 : decode prog_14_method_48_code 46 = .ok (.iload_n 1, 1) := by decide +kernel
theorem d_Md_wearing_47 : decode prog_14_method_48_code 47 = .ok (.iaload, 1) := by decide +kernel
theorem d_Md_wearing_48 : decode prog_14_method_48_code 48 = .ok (.ifCond .ge 9, 3) := by decide +kernel
theorem d_Md_wearing_51 : decode prog_14_method_48_code 51 = .ok (.sipush 1000, 3) := by decide +kernel
theorem d_Md_wearing_54 : decode prog_14_method_48_code 54 = .ok (.goto 9, 3) := by decide +kernel
theorem d_Md_wearing_57 : decode prog_14_method_48_code 57 = .ok (.aload_n 0, 1) := by decide +kernel
theorem d_Md_wearing_58 : decode prog_14_method_48_code 58 = .ok (.getfield 40, 3) := by decide +kernel
theorem d_Md_wearing_61 : decode prog_14_method_48_code 61 = .ok (.iload_n 1, 1) := by decide +kernel
theorem d_Md_wearing_62 : decode prog_14_method_48_code 62 = .ok (.iaload, 1) := by decide +kernel
theorem d_Md_wearing_63 : decode prog_14_method_48_code 63 = .ok (.ireturn, 1) := by decide +kernel
theorem d_Md_heels_0 : decode prog_14_method_49_code 0 = .ok (.aload_n 0, 1) := by decide +kernel
theorem d_Md_heels_1 : decode prog_14_method_49_code 1 = .ok (.iload_n 1, 1) := by decide +kernel
theorem d_Md_heels_2 : decode prog_14_method_49_code 2 = .ok (.i2l, 1) := by decide +kernel
theorem d_Md_heels_3 : decode prog_14_method_49_code 3 = .ok (.invokevirtual 114, 3) := by decide +kernel
theorem d_Md_heels_6 : decode prog_14_method_49_code 6 = .ok (.ifCond .eq 22, 3) := by decide +kernel
theorem d_Md_heels_9 : decode prog_14_method_49_code 9 = .ok (.iload_n 2, 1) := by decide +kernel
theorem d_Md_heels_10 : decode prog_14_method_49_code 10 = .ok (.invokestatic 227, 3) := by decide +kernel
theorem d_Md_heels_13 : decode prog_14_method_49_code 13 = .ok (.ifCond .eq 15, 3) := by decide +kernel
theorem d_Md_heels_16 : decode prog_14_method_49_code 16 = .ok (.iload_n 3, 1) := by decide +kernel
theorem d_Md_heels_17 : decode prog_14_method_49_code 17 = .ok (.i2l, 1) := by decide +kernel
theorem d_Md_heels_18 : decode prog_14_method_49_code 18 = .ok (.lconst 0, 1) := by decide +kernel
theorem d_Md_heels_19 : decode prog_14_method_49_code 19 = .ok (.ldc2_w 237, 3) := by decide +kernel
theorem d_Md_heels_22 : decode prog_14_method_49_code 22 = .ok (.invokestatic 89, 3) := by decide +kernel
theorem d_Md_heels_25 : decode prog_14_method_49_code 25 = .ok (.ifCond .ne 5, 3) := by decide +kernel
theorem d_Md_heels_28 : decode prog_14_method_49_code 28 = .ok (.iconst (-1), 1) := by decide +kernel
theorem d_Md_heels_29 : decode prog_14_method_49_code 29 = .ok (.ireturn, 1) := by decide +kernel
theorem d_Md_heels_30 : decode prog_14_method_49_code 30 = .ok (.bipush (-2), 2) := by decide +kernel
theorem d_Md_heels_32 : decode prog_14_method_49_code 32 = .ok (.istore 4, 2) := by decide +kernel
theorem d_Md_heels_34 : decode prog_14_method_49_code 34 = .ok (.bipush (-2), 2) := by decide +kernel
theorem d_Md_heels_36 : decode prog_14_method_49_code 36 = .ok (.istore 5, 2) := by decide +kernel
theorem d_Md_heels_38 : decode prog_14_method_49_code 38 = .ok (.sipush 1000, 3) := by decide +kernel
theorem d_Md_heels_41 : decode prog_14_method_49_code 41 = .ok (.istore 6, 2) := by decide +kernel
theorem d_Md_heels_43 : decode prog_14_method_49_code 43 = .ok (.iconst 0, 1) := by decide +kernel
theorem d_Md_heels_44 : decode prog_14_method_49_code 44 = .ok (.istore 7, 2) := by decide +kernel
theorem d_Md_heels_46 : decode prog_14_method_49_code 46 = .ok (.bipush 20, 2) := by decide +kernel
theorem d_Md_heels_48 : decode prog_14_method_49_code 48 = .ok (.istore 8, 2) := by decide +kernel
theorem d_Md_heels_50 : decode prog_14_method_49_code 50 = .ok (.iload 8, 2) := by decide +kernel
theorem d_Md_heels_52 : decode prog_14_method_49_code 52 = .ok (.ifCond .lt 72, 3) := by decide +kernel
theorem d_Md_heels_55 : decode prog_14_method_49_code 55 = .ok (.aload_n 0, 1) := by decide +kernel
theorem d_Md_heels_56 : decode prog_14_method_49_code 56 = .ok (.iload_n 1, 1) := by decide +kernel
theorem d_Md_heels_57 : decode prog_14_method_49_code 57 = .ok (.iload 8, 2) := by decide +kernel
theorem d_Md_heels_59 : decode prog_14_method_49_code 59 = .ok (.iload_n 2, 1) := by decide +kernel
theorem d_Md_heels_60 : decode prog_14_method_49_code 60 = .ok (.invokevirtual 260, 3) := by decide +kernel
theorem d_Md_heels_63 : decode prog_14_method_49_code 63 = .ok (.istore 9, 2) := by decide +kernel
theorem d_Md_heels_65 : decode prog_14_method_49_code 65 = .ok (.iload 9, 2) := by decide +kernel
theorem d_Md_heels_67 : decode prog_14_method_49_code 67 = .ok (.sipush 1000, 3) := by decide +kernel
theorem d_Md_heels_70 : decode prog_14_method_49_code 70 = .ok (.if_icmp .ge 48, 3) := by decide +kernel
theorem d_Md_heels_73 : decode prog_14_method_49_code 73 = .ok (.iload 7, 2) := by decide +kernel
theorem d_Md_heels_75 : decode prog_14_method_49_code 75 = .ok (.iconst 1, 1) := by decide +kernel
theorem d_Md_heels_76 : decode prog_14_method_49_code 76 = .ok (.iload 8, 2) := by decide +kernel
theorem d_Md_heels_78 : decode prog_14_method_49_code 78 = .ok (.ishl, 1) := by decide +kernel
theorem d_Md_heels_79 : decode prog_14_method_49_code 79 = .ok (.ior, 1) := by decide +kernel
theorem d_Md_heels_80 : decode prog_14_method_49_code 80 = .ok (.istore 7, 2) := by decide +kernel
theorem d_Md_heels_82 : decode prog_14_method_49_code 82 = .ok (.iload 8, 2) := by decide +kernel
theorem d_Md_heels_84 : decode prog_14_method_49_code 84 = .ok (.istore 4, 2) := by decide +kernel
theorem d_Md_heels_86 : decode prog_14_method_49_code 86 = .ok (.iload 9, 2) := by decide +kernel
theorem d_Md_heels_88 : decode prog_14_method_49_code 88 = .ok (.iload 6, 2) := by decide +kernel
theorem d_Md_heels_90 : decode prog_14_method_49_code 90 = .ok (.if_icmp .gt 8, 3) := by decide +kernel
theorem d_Md_heels_93 : decode prog_14_method_49_code 93 = .ok (.iload 8, 2) := by decide +kernel
theorem d_Md_heels_95 : decode prog_14_method_49_code 95 = .ok (.goto 5, 3) := by decide +kernel
theorem d_Md_heels_98 : decode prog_14_method_49_code 98 = .ok (.iload 5, 2) := by decide +kernel
theorem d_Md_heels_100 : decode prog_14_method_49_code 100 = .ok (.istore 5, 2) := by decide +kernel
theorem d_Md_heels_102 : decode prog_14_method_49_code 102 = .ok (.iload 9, 2) := by decide +kernel
theorem d_Md_heels_104 : decode prog_14_method_49_code 104 = .ok (.iload 6, 2) := by decide +kernel
theorem d_Md_heels_106 : decode prog_14_method_49_code 106 = .ok (.if_icmp .gt 8, 3) := by decide +kernel
theorem d_Md_heels_109 : decode prog_14_method_49_code 109 = .ok (.iload 9, 2) := by decide +kernel
theorem d_Md_heels_111 : decode prog_14_method_49_code 111 = .ok (.goto 5, 3) := by decide +kernel
theorem d_Md_heels_114 : decode prog_14_method_49_code 114 = .ok (.iload 6, 2) := by decide +kernel
theorem d_Md_heels_116 : decode prog_14_method_49_code 116 = .ok (.istore 6, 2) := by decide +kernel
theorem d_Md_heels_118 : decode prog_14_method_49_code 118 = .ok (.iinc 8 (-1), 3) := by decide +kernel
theorem d_Md_heels_121 : decode prog_14_method_49_code 121 = .ok (.goto (-71), 3) := by decide +kernel
theorem d_Md_heels_124 : decode prog_14_method_49_code 124 = .ok (.iload_n 3, 1) := by decide +kernel
theorem d_Md_heels_125 : decode prog_14_method_49_code 125 = .ok (.ifCond .ne 8, 3) := by decide +kernel
theorem d_Md_heels_128 : decode prog_14_method_49_code 128 = .ok (.iload 4, 2) := by decide +kernel
theorem d_Md_heels_130 : decode prog_14_method_49_code 130 = .ok (.goto 15, 3) := by decide +kernel
theorem d_Md_heels_133 : decode prog_14_method_49_code 133 = .ok (.iload_n 3, 1) := by decide +kernel
theorem d_Md_heels_134 : decode prog_14_method_49_code 134 = .ok (.iconst 1, 1) := by decide +kernel
theorem d_Md_heels_135 : decode prog_14_method_49_code 135 = .ok (.if_icmp .ne 8, 3) := by decide +kernel
theorem d_Md_heels_138 : decode prog_14_method_49_code 138 = .ok (.iload 5, 2) := by decide +kernel
theorem d_Md_heels_140 : decode prog_14_method_49_code 140 = .ok (.goto 5, 3) := by decide +kernel
theorem d_Md_heels_143 : decode prog_14_method_49_code 143 = .ok (.iload 7, 2) := by decide +kernel
theorem d_Md_heels_145 : decode prog_14_method_49_code 145 = .ok (.ireturn, 1) := by decide +kernel
theorem d_Md_later_0 : decode prog_14_method_50_code 0 = .ok (.aload_n 0, 1) := by decide +kernel
theorem d_Md_later_1 : decode prog_14_method_50_code 1 = .ok (.iload_n 1, 1) := by decide +kernel
theorem d_Md_later_2 : decode prog_14_method_50_code 2 = .ok (.i2l, 1) := by decide +kernel
theorem d_Md_later_3 : decode prog_14_method_50_code 3 = .ok (.invokevirtual 114, 3) := by decide +kernel
theorem d_Md_later_6 : decode prog_14_method_50_code 6 = .ok (.ifCond .ne 5, 3) := by decide +kernel
theorem d_Md_later_9 : decode prog_14_method_50_code 9 = .ok (.iconst (-1), 1) := by decide +kernel
theorem d_Md_later_10 : decode prog_14_method_50_code 10 = .ok (.ireturn, 1) := by decide +kernel
theorem d_Md_later_11 : decode prog_14_method_50_code 11 = .ok (.iconst 5, 1) := by decide +kernel
theorem d_Md_later_12 : decode prog_14_method_50_code 12 = .ok (.iload_n 1, 1) := by decide +kernel
theorem d_Md_later_13 : decode prog_14_method_50_code 13 = .ok (.imul, 1) := by decide +kernel
theorem d_Md_later_14 : decode prog_14_method_50_code 14 = .ok (.iconst 1, 1) := by decide +kernel
theorem d_Md_later_15 : decode prog_14_method_50_code 15 = .ok (.iadd, 1) := by decide +kernel
theorem d_Md_later_16 : decode prog_14_method_50_code 16 = .ok (.istore_n 2, 1) := by decide +kernel
theorem d_Md_later_17 : decode prog_14_method_50_code 17 = .ok (.aload_n 0, 1) := by decide +kernel
theorem d_Md_later_18 : decode prog_14_method_50_code 18 = .ok (.getfield 11, 3) := by decide +kernel
theorem d_Md_later_21 : decode prog_14_method_50_code 21 = .ok (.iload_n 2, 1) := by decide +kernel
theorem d_Md_later_22 : decode prog_14_method_50_code 22 = .ok (.iaload, 1) := by decide +kernel
theorem d_Md_later_23 : decode prog_14_method_50_code 23 = .ok (.istore_n 3, 1) := by decide +kernel
theorem d_Md_later_24 : decode prog_14_method_50_code 24 = .ok (.bipush (-2), 2) := by decide +kernel
theorem d_Md_later_26 : decode prog_14_method_50_code 26 = .ok (.istore 4, 2) := by decide +kernel
theorem d_Md_later_28 : decode prog_14_method_50_code 28 = .ok (.sipush 1000, 3) := by decide +kernel
theorem d_Md_later_31 : decode prog_14_method_50_code 31 = .ok (.istore 5, 2) := by decide +kernel
theorem d_Md_later_33 : decode prog_14_method_50_code 33 = .ok (.iconst 0, 1) := by decide +kernel
theorem d_Md_later_34 : decode prog_14_method_50_code 34 = .ok (.istore 6, 2) := by decide +kernel
theorem d_Md_later_36 : decode prog_14_method_50_code 36 = .ok (.iload 6, 2) := by decide +kernel
theorem d_Md_later_38 : decode prog_14_method_50_code 38 = .ok (.bipush 99, 2) := by decide +kernel
theorem d_Md_later_40 : decode prog_14_method_50_code 40 = .ok (.if_icmp .gt 85, 3) := by decide +kernel
theorem d_Md_later_43 : decode prog_14_method_50_code 43 = .ok (.aload_n 0, 1) := by decide +kernel
theorem d_Md_later_44 : decode prog_14_method_50_code 44 = .ok (.getfield 11, 3) := by decide +kernel
theorem d_Md_later_47 : decode prog_14_method_50_code 47 = .ok (.iload_n 2, 1) := by decide +kernel
theorem d_Md_later_48 : decode prog_14_method_50_code 48 = .ok (.iload 6, 2) := by decide +kernel
theorem d_Md_later_50 : decode prog_14_method_50_code 50 = .ok (.iastore, 1) := by decide +kernel
theorem d_Md_later_51 : decode prog_14_method_50_code 51 = .ok (.aload_n 0, 1) := by decide +kernel
theorem d_Md_later_52 : decode prog_14_method_50_code 52 = .ok (.invokevirtual 230, 3) := by decide +kernel
theorem d_Md_later_55 : decode prog_14_method_50_code 55 = .ok (.aload_n 0, 1) := by decide +kernel
theorem d_Md_later_56 : decode prog_14_method_50_code 56 = .ok (.bipush 100, 2) := by decide +kernel
theorem d_Md_later_58 : decode prog_14_method_50_code 58 = .ok (.invokevirtual 233, 3) := by decide +kernel
theorem d_Md_later_61 : decode prog_14_method_50_code 61 = .ok (.aload_n 0, 1) := by decide +kernel
theorem d_Md_later_62 : decode prog_14_method_50_code 62 = .ok (.getfield 40, 3) := by decide +kernel
theorem d_Md_later_65 : decode prog_14_method_50_code 65 = .ok (.iload_n 1, 1) := by decide +kernel
theorem d_Md_later_66 : decode prog_14_method_50_code 66 = .ok (.iaload, 1) := by decide +kernel
theorem d_Md_later_67 : decode prog_14_method_50_code 67 = .ok (.ifCond .ge 9, 3) := by decide +kernel
theorem d_Md_later_70 : decode prog_14_method_50_code 70 = .ok (.sipush 1000, 3) := by decide +kernel
theorem d_Md_later_73 : decode prog_14_method_50_code 73 = .ok (.goto 12, 3) := by decide +kernel
theorem d_Md_later_76 : decode prog_14_method_50_code 76 = .ok (.aload_n 0, 1) := by decide +kernel
theorem d_Md_later_77 : decode prog_14_method_50_code 77 = .ok (.getfield 40, 3) := by decide +kernel
theorem d_Md_later_80 : decode prog_14_method_50_code 80 = .ok (.iload_n 1, 1) := by decide +kernel
theorem d_Md_later_81 : decode prog_14_method_50_code 81 = .ok (.iaload, 1) := by decide +kernel
theorem d_Md_later_82 : decode prog_14_method_50_code 82 = .ok (.iload 6, 2) := by decide +kernel
theorem d_Md_later_84 : decode prog_14_method_50_code 84 = .ok (.isub, 1) := by decide +kernel
theorem d_Md_later_85 : decode prog_14_method_50_code 85 = .ok (.istore 7, 2) := by decide +kernel
theorem d_Md_later_87 : decode prog_14_method_50_code 87 = .ok (.iload 7, 2) := by decide +kernel
theorem d_Md_later_89 : decode prog_14_method_50_code 89 = .ok (.iload 5, 2) := by decide +kernel
theorem d_Md_later_91 : decode prog_14_method_50_code 91 = .ok (.if_icmp .ge 8, 3) := by decide +kernel
theorem d_Md_later_94 : decode prog_14_method_50_code 94 = .ok (.iload 6, 2) := by decide +kernel
theorem d_Md_later_96 : decode prog_14_method_50_code 96 = .ok (.goto 5, 3) := by decide +kernel
theorem d_Md_later_99 : decode prog_14_method_50_code 99 = .ok (.iload 4, 2) := by decide +kernel
theorem d_Md_later_101 : decode prog_14_method_50_code 101 = .ok (.istore 4, 2) := by decide +kernel
theorem d_Md_later_103 : decode prog_14_method_50_code 103 = .ok (.iload 7, 2) := by decide +kernel
theorem d_Md_later_105 : decode prog_14_method_50_code 105 = .ok (.iload 5, 2) := by decide +kernel
theorem d_Md_later_107 : decode prog_14_method_50_code 107 = .ok (.if_icmp .ge 8, 3) := by decide +kernel
theorem d_Md_later_110 : decode prog_14_method_50_code 110 = .ok (.iload 7, 2) := by decide +kernel
theorem d_Md_later_112 : decode prog_14_method_50_code 112 = .ok (.goto 5, 3) := by decide +kernel
theorem d_Md_later_115 : decode prog_14_method_50_code 115 = .ok (.iload 5, 2) := by decide +kernel
theorem d_Md_later_117 : decode prog_14_method_50_code 117 = .ok (.istore 5, 2) := by decide +kernel
theorem d_Md_later_119 : decode prog_14_method_50_code 119 = .ok (.iinc 6 1, 3) := by decide +kernel
theorem d_Md_later_122 : decode prog_14_method_50_code 122 = .ok (.goto (-86), 3) := by decide +kernel
theorem d_Md_later_125 : decode prog_14_method_50_code 125 = .ok (.aload_n 0, 1) := by decide +kernel
theorem d_Md_later_126 : decode prog_14_method_50_code 126 = .ok (.getfield 11, 3) := by decide +kernel
theorem d_Md_later_129 : decode prog_14_method_50_code 129 = .ok (.iload_n 2, 1) := by decide +kernel
theorem d_Md_later_130 : decode prog_14_method_50_code 130 = .ok (.iload_n 3, 1) := by decide +kernel
theorem d_Md_later_131 : decode prog_14_method_50_code 131 = .ok (.iastore, 1) := by decide +kernel
theorem d_Md_later_132 : decode prog_14_method_50_code 132 = .ok (.iload 4, 2) := by decide +kernel
theorem d_Md_later_134 : decode prog_14_method_50_code 134 = .ok (.ireturn, 1) := by decide +kernel
theorem d_Md_chooses_0 : decode prog_14_method_51_code 0 = .ok (.iconst 0, 1) := by decide +kernel
theorem d_Md_chooses_1 : decode prog_14_method_51_code 1 = .ok (.istore_n 2, 1) := by decide +kernel
theorem d_Md_chooses_2 : decode prog_14_method_51_code 2 = .ok (.sipush 1001, 3) := by decide +kernel
theorem d_Md_chooses_5 : decode prog_14_method_51_code 5 = .ok (.istore_n 3, 1) := by decide +kernel
theorem d_Md_chooses_6 : decode prog_14_method_51_code 6 = .ok (.iconst 0, 1) := by decide +kernel
theorem d_Md_chooses_7 : decode prog_14_method_51_code 7 = .ok (.istore 4, 2) := by decide +kernel
theorem d_Md_chooses_9 : decode prog_14_method_51_code 9 = .ok (.iload 4, 2) := by decide +kernel
theorem d_Md_chooses_11 : decode prog_14_method_51_code 11 = .ok (.bipush 20, 2) := by decide +kernel
theorem d_Md_chooses_13 : decode prog_14_method_51_code 13 = .ok (.if_icmp .gt 46, 3) := by decide +kernel
theorem d_Md_chooses_16 : decode prog_14_method_51_code 16 = .ok (.aload_n 0, 1) := by decide +kernel
theorem d_Md_chooses_17 : decode prog_14_method_51_code 17 = .ok (.iload_n 1, 1) := by decide +kernel
theorem d_Md_chooses_18 : decode prog_14_method_51_code 18 = .ok (.iload 4, 2) := by decide +kernel
theorem d_Md_chooses_20 : decode prog_14_method_51_code 20 = .ok (.bipush 30, 2) := by decide +kernel
theorem d_Md_chooses_22 : decode prog_14_method_51_code 22 = .ok (.invokevirtual 260, 3) := by decide +kernel
theorem d_Md_chooses_25 : decode prog_14_method_51_code 25 = .ok (.istore 5, 2) := by decide +kernel
theorem d_Md_chooses_27 : decode prog_14_method_51_code 27 = .ok (.iload 5, 2) := by decide +kernel
theorem d_Md_chooses_29 : decode prog_14_method_51_code 29 = .ok (.iload_n 3, 1) := by decide +kernel
theorem d_Md_chooses_30 : decode prog_14_method_51_code 30 = .ok (.if_icmp .ge 8, 3) := by decide +kernel
theorem d_Md_chooses_33 : decode prog_14_method_51_code 33 = .ok (.iload 4, 2) := by decide +kernel
theorem d_Md_chooses_35 : decode prog_14_method_51_code 35 = .ok (.goto 4, 3) := by decide +kernel
theorem d_Md_chooses_38 : decode prog_14_method_51_code 38 = .ok (.iload_n 2, 1) := by decide +kernel
theorem d_Md_chooses_39 : decode prog_14_method_51_code 39 = .ok (.istore_n 2, 1) := by decide +kernel
theorem d_Md_chooses_40 : decode prog_14_method_51_code 40 = .ok (.iload 5, 2) := by decide +kernel
theorem d_Md_chooses_42 : decode prog_14_method_51_code 42 = .ok (.iload_n 3, 1) := by decide +kernel
theorem d_Md_chooses_43 : decode prog_14_method_51_code 43 = .ok (.if_icmp .ge 8, 3) := by decide +kernel
theorem d_Md_chooses_46 : decode prog_14_method_51_code 46 = .ok (.iload 5, 2) := by decide +kernel
theorem d_Md_chooses_48 : decode prog_14_method_51_code 48 = .ok (.goto 4, 3) := by decide +kernel
theorem d_Md_chooses_51 : decode prog_14_method_51_code 51 = .ok (.iload_n 3, 1) := by decide +kernel
theorem d_Md_chooses_52 : decode prog_14_method_51_code 52 = .ok (.istore_n 3, 1) := by decide +kernel
theorem d_Md_chooses_53 : decode prog_14_method_51_code 53 = .ok (.iinc 4 1, 3) := by decide +kernel
theorem d_Md_chooses_56 : decode prog_14_method_51_code 56 = .ok (.goto (-47), 3) := by decide +kernel
theorem d_Md_chooses_59 : decode prog_14_method_51_code 59 = .ok (.iload_n 2, 1) := by decide +kernel
theorem d_Md_chooses_60 : decode prog_14_method_51_code 60 = .ok (.ireturn, 1) := by decide +kernel
theorem d_Md_allWear_0 : decode prog_14_method_52_code 0 = .ok (.iload_n 1, 1) := by decide +kernel
theorem d_Md_allWear_1 : decode prog_14_method_52_code 1 = .ok (.iconst (-1), 1) := by decide +kernel
theorem d_Md_allWear_2 : decode prog_14_method_52_code 2 = .ok (.if_icmp .eq 14, 3) := by decide +kernel
theorem d_Md_allWear_5 : decode prog_14_method_52_code 5 = .ok (.aload_n 0, 1) := by decide +kernel
theorem d_Md_allWear_6 : decode prog_14_method_52_code 6 = .ok (.iload_n 1, 1) := by decide +kernel
theorem d_Md_allWear_7 : decode prog_14_method_52_code 7 = .ok (.i2l, 1) := by decide +kernel
theorem d_Md_allWear_8 : decode prog_14_method_52_code 8 = .ok (.invokevirtual 114, 3) := by decide +kernel
theorem d_Md_allWear_11 : decode prog_14_method_52_code 11 = .ok (.ifCond .ne 5, 3) := by decide +kernel
theorem d_Md_allWear_14 : decode prog_14_method_52_code 14 = .ok (.iconst (-1), 1) := by decide +kernel
theorem d_Md_allWear_15 : decode prog_14_method_52_code 15 = .ok (.ireturn, 1) := by decide +kernel
theorem d_Md_allWear_16 : decode prog_14_method_52_code 16 = .ok (.iconst 0, 1) := by decide +kernel
theorem d_Md_allWear_17 : decode prog_14_method_52_code 17 = .ok (.istore_n 2, 1) := by decide +kernel
theorem d_Md_allWear_18 : decode prog_14_method_52_code 18 = .ok (.iload_n 2, 1) := by decide +kernel
theorem d_Md_allWear_19 : decode prog_14_method_52_code 19 = .ok (.aload_n 0, 1) := by decide +kernel
theorem d_Md_allWear_20 : decode prog_14_method_52_code 20 = .ok (.getfield 86, 3) := by decide +kernel
theorem d_Md_allWear_23 : decode prog_14_method_52_code 23 = .ok (.if_icmp .ge 25, 3) := by decide +kernel
theorem d_Md_allWear_26 : decode prog_14_method_52_code 26 = .ok (.aload_n 0, 1) := by decide +kernel
theorem d_Md_allWear_27 : decode prog_14_method_52_code 27 = .ok (.getfield 49, 3) := by decide +kernel
theorem d_Md_allWear_30 : decode prog_14_method_52_code 30 = .ok (.iload_n 2, 1) := by decide +kernel
theorem d_Md_allWear_31 : decode prog_14_method_52_code 31 = .ok (.aload_n 0, 1) := by decide +kernel
theorem d_Md_allWear_32 : decode prog_14_method_52_code 32 = .ok (.getfield 11, 3) := by decide +kernel
theorem d_Md_allWear_35 : decode prog_14_method_52_code 35 = .ok (.iconst 5, 1) := by decide +kernel
theorem d_Md_allWear_36 : decode prog_14_method_52_code 36 = .ok (.iload_n 2, 1) := by decide +kernel
theorem d_Md_allWear_37 : decode prog_14_method_52_code 37 = .ok (.imul, 1) := by decide +kernel
theorem d_Md_allWear_38 : decode prog_14_method_52_code 38 = .ok (.iconst 3, 1) := by decide +kernel
theorem d_Md_allWear_39 : decode prog_14_method_52_code 39 = .ok (.iadd, 1) := by decide +kernel
theorem d_Md_allWear_40 : decode prog_14_method_52_code 40 = .ok (.iaload, 1) := by decide +kernel
theorem d_Md_allWear_41 : decode prog_14_method_52_code 41 = .ok (.iastore, 1) := by decide +kernel
theorem d_Md_allWear_42 : decode prog_14_method_52_code 42 = .ok (.iinc 2 1, 3) := by decide +kernel
theorem d_Md_allWear_45 : decode prog_14_method_52_code 45 = .ok (.goto (-27), 3) := by decide +kernel
theorem d_Md_allWear_48 : decode prog_14_method_52_code 48 = .ok (.iconst 0, 1) := by decide +kernel
theorem d_Md_allWear_49 : decode prog_14_method_52_code 49 = .ok (.istore_n 2, 1) := by decide +kernel
theorem d_Md_allWear_50 : decode prog_14_method_52_code 50 = .ok (.iconst 1, 1) := by decide +kernel
theorem d_Md_allWear_51 : decode prog_14_method_52_code 51 = .ok (.istore_n 3, 1) := by decide +kernel
theorem d_Md_allWear_52 : decode prog_14_method_52_code 52 = .ok (.iload_n 3, 1) := by decide +kernel
theorem d_Md_allWear_53 : decode prog_14_method_52_code 53 = .ok (.ifCond .eq 80, 3) := by decide +kernel
theorem d_Md_allWear_56 : decode prog_14_method_52_code 56 = .ok (.iload_n 2, 1) := by decide +kernel
theorem d_Md_allWear_57 : decode prog_14_method_52_code 57 = .ok (.bipush 20, 2) := by decide +kernel
theorem d_Md_allWear_59 : decode prog_14_method_52_code 59 = .ok (.if_icmp .ge 74, 3) := by decide +kernel
theorem d_Md_allWear_62 : decode prog_14_method_52_code 62 = .ok (.iinc 2 1, 3) := by decide +kernel
theorem d_Md_allWear_65 : decode prog_14_method_52_code 65 = .ok (.iconst 0, 1) := by decide +kernel
theorem d_Md_allWear_66 : decode prog_14_method_52_code 66 = .ok (.istore_n 3, 1) := by decide +kernel
theorem d_Md_allWear_67 : decode prog_14_method_52_code 67 = .ok (.iconst 0, 1) := by decide +kernel
theorem d_Md_allWear_68 : decode prog_14_method_52_code 68 = .ok (.istore 4, 2) := by decide +kernel
theorem d_Md_allWear_70 : decode prog_14_method_52_code 70 = .ok (.iload 4, 2) := by decide +kernel
theorem d_Md_allWear_72 : decode prog_14_method_52_code 72 = .ok (.aload_n 0, 1) := by decide +kernel
theorem d_Md_allWear_73 : decode prog_14_method_52_code 73 = .ok (.getfield 86, 3) := by decide +kernel
theorem d_Md_allWear_76 : decode prog_14_method_52_code 76 = .ok (.if_icmp .ge 54, 3) := by decide +kernel
theorem d_Md_allWear_79 : decode prog_14_method_52_code 79 = .ok (.aload_n 0, 1) := by decide +kernel
theorem d_Md_allWear_80 : decode prog_14_method_52_code 80 = .ok (.iload 4, 2) := by decide +kernel
theorem d_Md_allWear_82 : decode prog_14_method_52_code 82 = .ok (.invokevirtual 263, 3) := by decide +kernel
theorem d_Md_allWear_85 : decode prog_14_method_52_code 85 = .ok (.istore 5, 2) := by decide +kernel
theorem d_Md_allWear_87 : decode prog_14_method_52_code 87 = .ok (.iload_n 3, 1) := by decide +kernel
theorem d_Md_allWear_88 : decode prog_14_method_52_code 88 = .ok (.iload 5, 2) := by decide +kernel
theorem d_Md_allWear_90 : decode prog_14_method_52_code 90 = .ok (.aload_n 0, 1) := by decide +kernel
theorem d_Md_allWear_91 : decode prog_14_method_52_code 91 = .ok (.getfield 11, 3) := by decide +kernel
theorem d_Md_allWear_94 : decode prog_14_method_52_code 94 = .ok (.iconst 5, 1) := by decide +kernel
theorem d_Md_allWear_95 : decode prog_14_method_52_code 95 = .ok (.iload 4, 2) := by decide +kernel
theorem d_Md_allWear_97 : decode prog_14_method_52_code 97 = .ok (.imul, 1) := by decide +kernel
theorem d_Md_allWear_98 : decode prog_14_method_52_code 98 = .ok (.iconst 3, 1) := by decide +kernel
theorem d_Md_allWear_99 : decode prog_14_method_52_code 99 = .ok (.iadd, 1) := by decide +kernel
theorem d_Md_allWear_100 : decode prog_14_method_52_code 100 = .ok (.iaload, 1) := by decide +kernel
theorem d_Md_allWear_101 : decode prog_14_method_52_code 101 = .ok (.if_icmp .eq 7, 3) := by decide +kernel
theorem d_Md_allWear_104 : decode prog_14_method_52_code 104 = .ok (.iconst 1, 1) := by decide +kernel
theorem d_Md_allWear_105 : decode prog_14_method_52_code 105 = .ok (.goto 4, 3) := by decide +kernel
theorem d_Md_allWear_108 : decode prog_14_method_52_code 108 = .ok (.iconst 0, 1) := by decide +kernel
theorem d_Md_allWear_109 : decode prog_14_method_52_code 109 = .ok (.ior, 1) := by decide +kernel
theorem d_Md_allWear_110 : decode prog_14_method_52_code 110 = .ok (.istore_n 3, 1) := by decide +kernel
theorem d_Md_allWear_111 : decode prog_14_method_52_code 111 = .ok (.aload_n 0, 1) := by decide +kernel
theorem d_Md_allWear_112 : decode prog_14_method_52_code 112 = .ok (.getfield 11, 3) := by decide +kernel
theorem d_Md_allWear_115 : decode prog_14_method_52_code 115 = .ok (.iconst 5, 1) := by decide +kernel
theorem d_Md_allWear_116 : decode prog_14_method_52_code 116 = .ok (.iload 4, 2) := by decide +kernel
theorem d_Md_allWear_118 : decode prog_14_method_52_code 118 = .ok (.imul, 1) := by decide +kernel
theorem d_Md_allWear_119 : decode prog_14_method_52_code 119 = .ok (.iconst 3, 1) := by decide +kernel
theorem d_Md_allWear_120 : decode prog_14_method_52_code 120 = .ok (.iadd, 1) := by decide +kernel
theorem d_Md_allWear_121 : decode prog_14_method_52_code 121 = .ok (.iload 5, 2) := by decide +kernel
theorem d_Md_allWear_123 : decode prog_14_method_52_code 123 = .ok (.iastore, 1) := by decide +kernel
theorem d_Md_allWear_124 : decode prog_14_method_52_code 124 = .ok (.iinc 4 1, 3) := by decide +kernel
theorem d_Md_allWear_127 : decode prog_14_method_52_code 127 = .ok (.goto (-57), 3) := by decide +kernel
theorem d_Md_allWear_130 : decode prog_14_method_52_code 130 = .ok (.goto (-78), 3) := by decide +kernel
theorem d_Md_allWear_133 : decode prog_14_method_52_code 133 = .ok (.iload_n 3, 1) := by decide +kernel
theorem d_Md_allWear_134 : decode prog_14_method_52_code 134 = .ok (.ifCond .eq 8, 3) := by decide +kernel
theorem d_Md_allWear_137 : decode prog_14_method_52_code 137 = .ok (.bipush (-2), 2) := by decide +kernel
theorem d_Md_allWear_139 : decode prog_14_method_52_code 139 = .ok (.goto 21, 3) := by decide +kernel
theorem d_Md_allWear_142 : decode prog_14_method_52_code 142 = .ok (.iload_n 1, 1) := by decide +kernel
theorem d_Md_allWear_143 : decode prog_14_method_52_code 143 = .ok (.ifCond .ge 7, 3) := by decide +kernel
theorem d_Md_allWear_146 : decode prog_14_method_52_code 146 = .ok (.iload_n 2, 1) := by decide +kernel
theorem d_Md_allWear_147 : decode prog_14_method_52_code 147 = .ok (.goto 13, 3) := by decide +kernel
theorem d_Md_allWear_150 : decode prog_14_method_52_code 150 = .ok (.aload_n 0, 1) := by decide +kernel
theorem d_Md_allWear_151 : decode prog_14_method_52_code 151 = .ok (.getfield 11, 3) := by decide +kernel
theorem d_Md_allWear_154 : decode prog_14_method_52_code 154 = .ok (.iconst 5, 1) := by decide +kernel
theorem d_Md_allWear_155 : decode prog_14_method_52_code 155 = .ok (.iload_n 1, 1) := by decide +kernel
theorem d_Md_allWear_156 : decode prog_14_method_52_code 156 = .ok (.imul, 1) := by decide +kernel
theorem d_Md_allWear_157 : decode prog_14_method_52_code 157 = .ok (.iconst 3, 1) := by decide +kernel
theorem d_Md_allWear_158 : decode prog_14_method_52_code 158 = .ok (.iadd, 1) := by decide +kernel
theorem d_Md_allWear_159 : decode prog_14_method_52_code 159 = .ok (.iaload, 1) := by decide +kernel
theorem d_Md_allWear_160 : decode prog_14_method_52_code 160 = .ok (.istore 4, 2) := by decide +kernel
theorem d_Md_allWear_162 : decode prog_14_method_52_code 162 = .ok (.iconst 0, 1) := by decide +kernel
theorem d_Md_allWear_163 : decode prog_14_method_52_code 163 = .ok (.istore 5, 2) := by decide +kernel
theorem d_Md_allWear_165 : decode prog_14_method_52_code 165 = .ok (.iload 5, 2) := by decide +kernel
theorem d_Md_allWear_167 : decode prog_14_method_52_code 167 = .ok (.aload_n 0, 1) := by decide +kernel
theorem d_Md_allWear_168 : decode prog_14_method_52_code 168 = .ok (.getfield 86, 3) := by decide +kernel
theorem d_Md_allWear_171 : decode prog_14_method_52_code 171 = .ok (.if_icmp .ge 27, 3) := by decide +kernel
theorem d_Md_allWear_174 : decode prog_14_method_52_code 174 = .ok (.aload_n 0, 1) := by decide +kernel
theorem d_Md_allWear_175 : decode prog_14_method_52_code 175 = .ok (.getfield 11, 3) := by decide +kernel
theorem d_Md_allWear_178 : decode prog_14_method_52_code 178 = .ok (.iconst 5, 1) := by decide +kernel
theorem d_Md_allWear_179 : decode prog_14_method_52_code 179 = .ok (.iload 5, 2) := by decide +kernel
theorem d_Md_allWear_181 : decode prog_14_method_52_code 181 = .ok (.imul, 1) := by decide +kernel
theorem d_Md_allWear_182 : decode prog_14_method_52_code 182 = .ok (.iconst 3, 1) := by decide +kernel
theorem d_Md_allWear_183 : decode prog_14_method_52_code 183 = .ok (.iadd, 1) := by decide +kernel
theorem d_Md_allWear_184 : decode prog_14_method_52_code 184 = .ok (.aload_n 0, 1) := by decide +kernel
theorem d_Md_allWear_185 : decode prog_14_method_52_code 185 = .ok (.getfield 49, 3) := by decide +kernel
theorem d_Md_allWear_188 : decode prog_14_method_52_code 188 = .ok (.iload 5, 2) := by decide +kernel
theorem d_Md_allWear_190 : decode prog_14_method_52_code 190 = .ok (.iaload, 1) := by decide +kernel
theorem d_Md_allWear_191 : decode prog_14_method_52_code 191 = .ok (.iastore, 1) := by decide +kernel
theorem d_Md_allWear_192 : decode prog_14_method_52_code 192 = .ok (.iinc 5 1, 3) := by decide +kernel
theorem d_Md_allWear_195 : decode prog_14_method_52_code 195 = .ok (.goto (-30), 3) := by decide +kernel
theorem d_Md_allWear_198 : decode prog_14_method_52_code 198 = .ok (.iload 4, 2) := by decide +kernel
theorem d_Md_allWear_200 : decode prog_14_method_52_code 200 = .ok (.ireturn, 1) := by decide +kernel
theorem d_Md_gates_0 : decode prog_14_method_53_code 0 = .ok (.iload_n 1, 1) := by decide +kernel
theorem d_Md_gates_1 : decode prog_14_method_53_code 1 = .ok (.i2l, 1) := by decide +kernel
theorem d_Md_gates_2 : decode prog_14_method_53_code 2 = .ok (.lconst 0, 1) := by decide +kernel
theorem d_Md_gates_3 : decode prog_14_method_53_code 3 = .ok (.iconst 1, 1) := by decide +kernel
theorem d_Md_gates_4 : decode prog_14_method_53_code 4 = .ok (.aload_n 0, 1) := by decide +kernel
theorem d_Md_gates_5 : decode prog_14_method_53_code 5 = .ok (.getfield 86, 3) := by decide +kernel
theorem d_Md_gates_8 : decode prog_14_method_53_code 8 = .ok (.ishl, 1) := by decide +kernel
theorem d_Md_gates_9 : decode prog_14_method_53_code 9 = .ok (.iconst 1, 1) := by decide +kernel
theorem d_Md_gates_10 : decode prog_14_method_53_code 10 = .ok (.isub, 1) := by decide +kernel
theorem d_Md_gates_11 : decode prog_14_method_53_code 11 = .ok (.i2l, 1) := by decide +kernel
theorem d_Md_gates_12 : decode prog_14_method_53_code 12 = .ok (.invokestatic 89, 3) := by decide +kernel
theorem d_Md_gates_15 : decode prog_14_method_53_code 15 = .ok (.ifCond .eq 17, 3) := by decide +kernel
theorem d_Md_gates_18 : decode prog_14_method_53_code 18 = .ok (.iload_n 2, 1) := by decide +kernel
theorem d_Md_gates_19 : decode prog_14_method_53_code 19 = .ok (.iconst (-1), 1) := by decide +kernel
theorem d_Md_gates_20 : decode prog_14_method_53_code 20 = .ok (.if_icmp .eq 14, 3) := by decide +kernel
theorem d_Md_gates_23 : decode prog_14_method_53_code 23 = .ok (.aload_n 0, 1) := by decide +kernel
theorem d_Md_gates_24 : decode prog_14_method_53_code 24 = .ok (.iload_n 2, 1) := by decide +kernel
theorem d_Md_gates_25 : decode prog_14_method_53_code 25 = .ok (.i2l, 1) := by decide +kernel
theorem d_Md_gates_26 : decode prog_14_method_53_code 26 = .ok (.invokevirtual 114, 3) := by decide +kernel
theorem d_Md_gates_29 : decode prog_14_method_53_code 29 = .ok (.ifCond .ne 5, 3) := by decide +kernel
theorem d_Md_gates_32 : decode prog_14_method_53_code 32 = .ok (.iconst (-1), 1) := by decide +kernel
theorem d_Md_gates_33 : decode prog_14_method_53_code 33 = .ok (.ireturn, 1) := by decide +kernel
theorem d_Md_gates_34 : decode prog_14_method_53_code 34 = .ok (.aload_n 0, 1) := by decide +kernel
theorem d_Md_gates_35 : decode prog_14_method_53_code 35 = .ok (.invokevirtual 230, 3) := by decide +kernel
theorem d_Md_gates_38 : decode prog_14_method_53_code 38 = .ok (.aload_n 0, 1) := by decide +kernel
theorem d_Md_gates_39 : decode prog_14_method_53_code 39 = .ok (.iload_n 1, 1) := by decide +kernel
theorem d_Md_gates_40 : decode prog_14_method_53_code 40 = .ok (.putfield 205, 3) := by decide +kernel
theorem d_Md_gates_43 : decode prog_14_method_53_code 43 = .ok (.aload_n 0, 1) := by decide +kernel
theorem d_Md_gates_44 : decode prog_14_method_53_code 44 = .ok (.bipush 100, 2) := by decide +kernel
theorem d_Md_gates_46 : decode prog_14_method_53_code 46 = .ok (.invokevirtual 233, 3) := by decide +kernel
theorem d_Md_gates_49 : decode prog_14_method_53_code 49 = .ok (.iload_n 2, 1) := by decide +kernel
theorem d_Md_gates_50 : decode prog_14_method_53_code 50 = .ok (.ifCond .ge 10, 3) := by decide +kernel
theorem d_Md_gates_53 : decode prog_14_method_53_code 53 = .ok (.aload_n 0, 1) := by decide +kernel
theorem d_Md_gates_54 : decode prog_14_method_53_code 54 = .ok (.invokevirtual 239, 3) := by decide +kernel
theorem d_Md_gates_57 : decode prog_14_method_53_code 57 = .ok (.goto 9, 3) := by decide +kernel
theorem d_Md_gates_60 : decode prog_14_method_53_code 60 = .ok (.aload_n 0, 1) := by decide +kernel
theorem d_Md_gates_61 : decode prog_14_method_53_code 61 = .ok (.getfield 40, 3) := by decide +kernel
theorem d_Md_gates_64 : decode prog_14_method_53_code 64 = .ok (.iload_n 2, 1) := by decide +kernel
theorem d_Md_gates_65 : decode prog_14_method_53_code 65 = .ok (.iaload, 1) := by decide +kernel
theorem d_Md_gates_66 : decode prog_14_method_53_code 66 = .ok (.ireturn, 1) := by decide +kernel
theorem d_Md_where_0 : decode prog_14_method_54_code 0 = .ok (.aload_n 0, 1) := by decide +kernel
theorem d_Md_where_1 : decode prog_14_method_54_code 1 = .ok (.iload_n 1, 1) := by decide +kernel
theorem d_Md_where_2 : decode prog_14_method_54_code 2 = .ok (.i2l, 1) := by decide +kernel
theorem d_Md_where_3 : decode prog_14_method_54_code 3 = .ok (.invokevirtual 114, 3) := by decide +kernel
theorem d_Md_where_6 : decode prog_14_method_54_code 6 = .ok (.ifCond .ne 5, 3) := by decide +kernel
theorem d_Md_where_9 : decode prog_14_method_54_code 9 = .ok (.iconst (-1), 1) := by decide +kernel
theorem d_Md_where_10 : decode prog_14_method_54_code 10 = .ok (.ireturn, 1) := by decide +kernel
theorem d_Md_where_11 : decode prog_14_method_54_code 11 = .ok (.aload_n 0, 1) := by decide +kernel
theorem d_Md_where_12 : decode prog_14_method_54_code 12 = .ok (.invokevirtual 230, 3) := by decide +kernel
theorem d_Md_where_15 : decode prog_14_method_54_code 15 = .ok (.aload_n 0, 1) := by decide +kernel
theorem d_Md_where_16 : decode prog_14_method_54_code 16 = .ok (.bipush 100, 2) := by decide +kernel
theorem d_Md_where_18 : decode prog_14_method_54_code 18 = .ok (.invokevirtual 233, 3) := by decide +kernel
theorem d_Md_where_21 : decode prog_14_method_54_code 21 = .ok (.aload_n 0, 1) := by decide +kernel
theorem d_Md_where_22 : decode prog_14_method_54_code 22 = .ok (.getfield 40, 3) := by decide +kernel
theorem d_Md_where_25 : decode prog_14_method_54_code 25 = .ok (.iload_n 1, 1) := by decide +kernel
theorem d_Md_where_26 : decode prog_14_method_54_code 26 = .ok (.iaload, 1) := by decide +kernel
theorem d_Md_where_27 : decode prog_14_method_54_code 27 = .ok (.ifCond .ge 9, 3) := by decide +kernel
theorem d_Md_where_30 : decode prog_14_method_54_code 30 = .ok (.sipush 1000, 3) := by decide +kernel
theorem d_Md_where_33 : decode prog_14_method_54_code 33 = .ok (.goto 9, 3) := by decide +kernel
theorem d_Md_where_36 : decode prog_14_method_54_code 36 = .ok (.aload_n 0, 1) := by decide +kernel
theorem d_Md_where_37 : decode prog_14_method_54_code 37 = .ok (.getfield 40, 3) := by decide +kernel
theorem d_Md_where_40 : decode prog_14_method_54_code 40 = .ok (.iload_n 1, 1) := by decide +kernel
theorem d_Md_where_41 : decode prog_14_method_54_code 41 = .ok (.iaload, 1) := by decide +kernel
theorem d_Md_where_42 : decode prog_14_method_54_code 42 = .ok (.istore_n 2, 1) := by decide +kernel
theorem d_Md_where_43 : decode prog_14_method_54_code 43 = .ok (.aload_n 0, 1) := by decide +kernel
theorem d_Md_where_44 : decode prog_14_method_54_code 44 = .ok (.invokevirtual 230, 3) := by decide +kernel
theorem d_Md_where_47 : decode prog_14_method_54_code 47 = .ok (.aload_n 0, 1) := by decide +kernel
theorem d_Md_where_48 : decode prog_14_method_54_code 48 = .ok (.iconst 1, 1) := by decide +kernel
theorem d_Md_where_49 : decode prog_14_method_54_code 49 = .ok (.iload_n 1, 1) := by decide +kernel
theorem d_Md_where_50 : decode prog_14_method_54_code 50 = .ok (.ishl, 1) := by decide +kernel
theorem d_Md_where_51 : decode prog_14_method_54_code 51 = .ok (.putfield 205, 3) := by decide +kernel
theorem d_Md_where_54 : decode prog_14_method_54_code 54 = .ok (.aload_n 0, 1) := by decide +kernel
theorem d_Md_where_55 : decode prog_14_method_54_code 55 = .ok (.bipush 100, 2) := by decide +kernel
theorem d_Md_where_57 : decode prog_14_method_54_code 57 = .ok (.invokevirtual 233, 3) := by decide +kernel
theorem d_Md_where_60 : decode prog_14_method_54_code 60 = .ok (.aload_n 0, 1) := by decide +kernel
theorem d_Md_where_61 : decode prog_14_method_54_code 61 = .ok (.getfield 40, 3) := by decide +kernel
theorem d_Md_where_64 : decode prog_14_method_54_code 64 = .ok (.iload_n 1, 1) := by decide +kernel
theorem d_Md_where_65 : decode prog_14_method_54_code 65 = .ok (.iaload, 1) := by decide +kernel
theorem d_Md_where_66 : decode prog_14_method_54_code 66 = .ok (.ifCond .ge 9, 3) := by decide +kernel
theorem d_Md_where_69 : decode prog_14_method_54_code 69 = .ok (.sipush 1000, 3) := by decide +kernel
theorem d_Md_where_72 : decode prog_14_method_54_code 72 = .ok (.goto 9, 3) := by decide +kernel
theorem d_Md_where_75 : decode prog_14_method_54_code 75 = .ok (.aload_n 0, 1) := by decide +kernel
theorem d_Md_where_76 : decode prog_14_method_54_code 76 = .ok (.getfield 40, 3) := by decide +kernel
theorem d_Md_where_79 : decode prog_14_method_54_code 79 = .ok (.iload_n 1, 1) := by decide +kernel
theorem d_Md_where_80 : decode prog_14_method_54_code 80 = .ok (.iaload, 1) := by decide +kernel
theorem d_Md_where_81 : decode prog_14_method_54_code 81 = .ok (.istore_n 3, 1) := by decide +kernel
theorem d_Md_where_82 : decode prog_14_method_54_code 82 = .ok (.iload_n 2, 1) := by decide +kernel
theorem d_Md_where_83 : decode prog_14_method_54_code 83 = .ok (.sipush 1000, 3) := by decide +kernel
theorem d_Md_where_86 : decode prog_14_method_54_code 86 = .ok (.if_icmp .ne 15, 3) := by decide +kernel
theorem d_Md_where_89 : decode prog_14_method_54_code 89 = .ok (.iload_n 3, 1) := by decide +kernel
theorem d_Md_where_90 : decode prog_14_method_54_code 90 = .ok (.sipush 1000, 3) := by decide +kernel
theorem d_Md_where_93 : decode prog_14_method_54_code 93 = .ok (.if_icmp .ne 8, 3) := by decide +kernel
theorem d_Md_where_96 : decode prog_14_method_54_code 96 = .ok (.bipush (-2), 2) := by decide +kernel
theorem d_Md_where_98 : decode prog_14_method_54_code 98 = .ok (.goto 13, 3) := by decide +kernel
theorem d_Md_where_101 : decode prog_14_method_54_code 101 = .ok (.iload_n 3, 1) := by decide +kernel
theorem d_Md_where_102 : decode prog_14_method_54_code 102 = .ok (.iload_n 2, 1) := by decide +kernel
theorem d_Md_where_103 : decode prog_14_method_54_code 103 = .ok (.if_icmp .ge 7, 3) := by decide +kernel
theorem d_Md_where_106 : decode prog_14_method_54_code 106 = .ok (.iconst 1, 1) := by decide +kernel
theorem d_Md_where_107 : decode prog_14_method_54_code 107 = .ok (.goto 4, 3) := by decide +kernel
theorem d_Md_where_110 : decode prog_14_method_54_code 110 = .ok (.iconst 0, 1) := by decide +kernel
theorem d_Md_where_111 : decode prog_14_method_54_code 111 = .ok (.ireturn, 1) := by decide +kernel
theorem d_Md_bestSet_0 : decode prog_14_method_55_code 0 = .ok (.iload_n 1, 1) := by decide +kernel
theorem d_Md_bestSet_1 : decode prog_14_method_55_code 1 = .ok (.invokestatic 227, 3) := by decide +kernel
theorem d_Md_bestSet_4 : decode prog_14_method_55_code 4 = .ok (.ifCond .eq 13, 3) := by decide +kernel
theorem d_Md_bestSet_7 : decode prog_14_method_55_code 7 = .ok (.iload_n 2, 1) := by decide +kernel
theorem d_Md_bestSet_8 : decode prog_14_method_55_code 8 = .ok (.i2l, 1) := by decide +kernel
theorem d_Md_bestSet_9 : decode prog_14_method_55_code 9 = .ok (.lconst 0, 1) := by decide +kernel
theorem d_Md_bestSet_10 : decode prog_14_method_55_code 10 = .ok (.lconst 1, 1) := by decide +kernel
theorem d_Md_bestSet_11 : decode prog_14_method_55_code 11 = .ok (.invokestatic 89, 3) := by decide +kernel
theorem d_Md_bestSet_14 : decode prog_14_method_55_code 14 = .ok (.ifCond .ne 5, 3) := by decide +kernel
theorem d_Md_bestSet_17 : decode prog_14_method_55_code 17 = .ok (.iconst (-1), 1) := by decide +kernel
theorem d_Md_bestSet_18 : decode prog_14_method_55_code 18 = .ok (.ireturn, 1) := by decide +kernel
theorem d_Md_bestSet_19 : decode prog_14_method_55_code 19 = .ok (.aload_n 0, 1) := by decide +kernel
theorem d_Md_bestSet_20 : decode prog_14_method_55_code 20 = .ok (.getfield 86, 3) := by decide +kernel
theorem d_Md_bestSet_23 : decode prog_14_method_55_code 23 = .ok (.bipush 8, 2) := by decide +kernel
theorem d_Md_bestSet_25 : decode prog_14_method_55_code 25 = .ok (.if_icmp .le 6, 3) := by decide +kernel
theorem d_Md_bestSet_28 : decode prog_14_method_55_code 28 = .ok (.bipush (-5), 2) := by decide +kernel
theorem d_Md_bestSet_30 : decode prog_14_method_55_code 30 = .ok (.ireturn, 1) := by decide +kernel
theorem d_Md_bestSet_31 : decode prog_14_method_55_code 31 = .ok (.iconst 0, 1) := by decide +kernel
theorem d_Md_bestSet_32 : decode prog_14_method_55_code 32 = .ok (.istore_n 3, 1) := by decide +kernel
theorem d_Md_bestSet_33 : decode prog_14_method_55_code 33 = .ok (.iconst (-1), 1) := by decide +kernel
theorem d_Md_bestSet_34 : decode prog_14_method_55_code 34 = .ok (.istore 4, 2) := by decide +kernel
theorem d_Md_bestSet_36 : decode prog_14_method_55_code 36 = .ok (.iconst 0, 1) := by decide +kernel
theorem d_Md_bestSet_37 : decode prog_14_method_55_code 37 = .ok (.istore 5, 2) := by decide +kernel
theorem d_Md_bestSet_39 : decode prog_14_method_55_code 39 = .ok (.iload 5, 2) := by decide +kernel
theorem d_Md_bestSet_41 : decode prog_14_method_55_code 41 = .ok (.iconst 1, 1) := by decide +kernel
theorem d_Md_bestSet_42 : decode prog_14_method_55_code 42 = .ok (.aload_n 0, 1) := by decide +kernel
theorem d_Md_bestSet_43 : decode prog_14_method_55_code 43 = .ok (.getfield 86, 3) := by decide +kernel
theorem d_Md_bestSet_46 : decode prog_14_method_55_code 46 = .ok (.ishl, 1) := by decide +kernel
theorem d_Md_bestSet_47 : decode prog_14_method_55_code 47 = .ok (.if_icmp .ge 60, 3) := by decide +kernel
theorem d_Md_bestSet_50 : decode prog_14_method_55_code 50 = .ok (.aload_n 0, 1) := by decide +kernel
theorem d_Md_bestSet_51 : decode prog_14_method_55_code 51 = .ok (.invokevirtual 230, 3) := by decide +kernel
theorem d_Md_bestSet_54 : decode prog_14_method_55_code 54 = .ok (.aload_n 0, 1) := by decide +kernel
theorem d_Md_bestSet_55 : decode prog_14_method_55_code 55 = .ok (.iload 5, 2) := by decide +kernel
theorem d_Md_bestSet_57 : decode prog_14_method_55_code 57 = .ok (.putfield 205, 3) := by decide +kernel
theorem d_Md_bestSet_60 : decode prog_14_method_55_code 60 = .ok (.aload_n 0, 1) := by decide +kernel
theorem d_Md_bestSet_61 : decode prog_14_method_55_code 61 = .ok (.iload_n 1, 1) := by decide +kernel
theorem d_Md_bestSet_62 : decode prog_14_method_55_code 62 = .ok (.invokevirtual 233, 3) := by decide +kernel
theorem d_Md_bestSet_65 : decode prog_14_method_55_code 65 = .ok (.aload_n 0, 1) := by decide +kernel
theorem d_Md_bestSet_66 : decode prog_14_method_55_code 66 = .ok (.invokevirtual 239, 3) := by decide +kernel
theorem d_Md_bestSet_69 : decode prog_14_method_55_code 69 = .ok (.iload 4, 2) := by decide +kernel
theorem d_Md_bestSet_71 : decode prog_14_method_55_code 71 = .ok (.if_icmp .le 8, 3) := by decide +kernel
theorem d_Md_bestSet_74 : decode prog_14_method_55_code 74 = .ok (.iload 5, 2) := by decide +kernel
theorem d_Md_bestSet_76 : decode prog_14_method_55_code 76 = .ok (.goto 4, 3) := by decide +kernel
theorem d_Md_bestSet_79 : decode prog_14_method_55_code 79 = .ok (.iload_n 3, 1) := by decide +kernel
theorem d_Md_bestSet_80 : decode prog_14_method_55_code 80 = .ok (.istore_n 3, 1) := by decide +kernel
theorem d_Md_bestSet_81 : decode prog_14_method_55_code 81 = .ok (.aload_n 0, 1) := by decide +kernel
theorem d_Md_bestSet_82 : decode prog_14_method_55_code 82 = .ok (.invokevirtual 239, 3) := by decide +kernel
theorem d_Md_bestSet_85 : decode prog_14_method_55_code 85 = .ok (.iload 4, 2) := by decide +kernel
theorem d_Md_bestSet_87 : decode prog_14_method_55_code 87 = .ok (.if_icmp .le 10, 3) := by decide +kernel
theorem d_Md_bestSet_90 : decode prog_14_method_55_code 90 = .ok (.aload_n 0, 1) := by decide +kernel
theorem d_Md_bestSet_91 : decode prog_14_method_55_code 91 = .ok (.invokevirtual 239, 3) := by decide +kernel
theorem d_Md_bestSet_94 : decode prog_14_method_55_code 94 = .ok (.goto 5, 3) := by decide +kernel
theorem d_Md_bestSet_97 : decode prog_14_method_55_code 97 = .ok (.iload 4, 2) := by decide +kernel
theorem d_Md_bestSet_99 : decode prog_14_method_55_code 99 = .ok (.istore 4, 2) := by decide +kernel
theorem d_Md_bestSet_101 : decode prog_14_method_55_code 101 = .ok (.iinc 5 1, 3) := by decide +kernel
theorem d_Md_bestSet_104 : decode prog_14_method_55_code 104 = .ok (.goto (-65), 3) := by decide +kernel
theorem d_Md_bestSet_107 : decode prog_14_method_55_code 107 = .ok (.iload_n 2, 1) := by decide +kernel
theorem d_Md_bestSet_108 : decode prog_14_method_55_code 108 = .ok (.ifCond .ne 7, 3) := by decide +kernel
theorem d_Md_bestSet_111 : decode prog_14_method_55_code 111 = .ok (.iload_n 3, 1) := by decide +kernel
theorem d_Md_bestSet_112 : decode prog_14_method_55_code 112 = .ok (.goto 5, 3) := by decide +kernel
theorem d_Md_bestSet_115 : decode prog_14_method_55_code 115 = .ok (.iload 4, 2) := by decide +kernel
theorem d_Md_bestSet_117 : decode prog_14_method_55_code 117 = .ok (.ireturn, 1) := by decide +kernel
theorem d_Md_atLast_0 : decode prog_14_method_56_code 0 = .ok (.aload_n 0, 1) := by decide +kernel
theorem d_Md_atLast_1 : decode prog_14_method_56_code 1 = .ok (.invokevirtual 230, 3) := by decide +kernel
theorem d_Md_atLast_4 : decode prog_14_method_56_code 4 = .ok (.aload_n 0, 1) := by decide +kernel
theorem d_Md_atLast_5 : decode prog_14_method_56_code 5 = .ok (.bipush 100, 2) := by decide +kernel
theorem d_Md_atLast_7 : decode prog_14_method_56_code 7 = .ok (.invokevirtual 233, 3) := by decide +kernel
theorem d_Md_atLast_10 : decode prog_14_method_56_code 10 = .ok (.iconst 0, 1) := by decide +kernel
theorem d_Md_atLast_11 : decode prog_14_method_56_code 11 = .ok (.istore_n 1, 1) := by decide +kernel
theorem d_Md_atLast_12 : decode prog_14_method_56_code 12 = .ok (.iconst 0, 1) := by decide +kernel
theorem d_Md_atLast_13 : decode prog_14_method_56_code 13 = .ok (.istore_n 2, 1) := by decide +kernel
theorem d_Md_atLast_14 : decode prog_14_method_56_code 14 = .ok (.iload_n 2, 1) := by decide +kernel
theorem d_Md_atLast_15 : decode prog_14_method_56_code 15 = .ok (.aload_n 0, 1) := by decide +kernel
theorem d_Md_atLast_16 : decode prog_14_method_56_code 16 = .ok (.getfield 86, 3) := by decide +kernel
theorem d_Md_atLast_19 : decode prog_14_method_56_code 19 = .ok (.if_icmp .ge 42, 3) := by decide +kernel
theorem d_Md_atLast_22 : decode prog_14_method_56_code 22 = .ok (.aload_n 0, 1) := by decide +kernel
theorem d_Md_atLast_23 : decode prog_14_method_56_code 23 = .ok (.getfield 40, 3) := by decide +kernel
theorem d_Md_atLast_26 : decode prog_14_method_56_code 26 = .ok (.iload_n 2, 1) := by decide +kernel
theorem d_Md_atLast_27 : decode prog_14_method_56_code 27 = .ok (.iaload, 1) := by decide +kernel
theorem d_Md_atLast_28 : decode prog_14_method_56_code 28 = .ok (.ifCond .ge 6, 3) := by decide +kernel
theorem d_Md_atLast_31 : decode prog_14_method_56_code 31 = .ok (.bipush (-2), 2) := by decide +kernel
theorem d_Md_atLast_33 : decode prog_14_method_56_code 33 = .ok (.ireturn, 1) := by decide +kernel
theorem d_Md_atLast_34 : decode prog_14_method_56_code 34 = .ok (.aload_n 0, 1) := by decide +kernel
theorem d_Md_atLast_35 : decode prog_14_method_56_code 35 = .ok (.getfield 40, 3) := by decide +kernel
theorem d_Md_atLast_38 : decode prog_14_method_56_code 38 = .ok (.iload_n 2, 1) := by decide +kernel
theorem d_Md_atLast_39 : decode prog_14_method_56_code 39 = .ok (.iaload, 1) := by decide +kernel
theorem d_Md_atLast_40 : decode prog_14_method_56_code 40 = .ok (.iload_n 1, 1) := by decide +kernel
theorem d_Md_atLast_41 : decode prog_14_method_56_code 41 = .ok (.if_icmp .le 12, 3) := by decide +kernel
theorem d_Md_atLast_44 : decode prog_14_method_56_code 44 = .ok (.aload_n 0, 1) := by decide +kernel
theorem d_Md_atLast_45 : decode prog_14_method_56_code 45 = .ok (.getfield 40, 3) := by decide +kernel
theorem d_Md_atLast_48 : decode prog_14_method_56_code 48 = .ok (.iload_n 2, 1) := by decide +kernel
theorem d_Md_atLast_49 : decode prog_14_method_56_code 49 = .ok (.iaload, 1) := by decide +kernel
theorem d_Md_atLast_50 : decode prog_14_method_56_code 50 = .ok (.goto 4, 3) := by decide +kernel
theorem d_Md_atLast_53 : decode prog_14_method_56_code 53 = .ok (.iload_n 1, 1) := by decide +kernel
theorem d_Md_atLast_54 : decode prog_14_method_56_code 54 = .ok (.istore_n 1, 1) := by decide +kernel
theorem d_Md_atLast_55 : decode prog_14_method_56_code 55 = .ok (.iinc 2 1, 3) := by decide +kernel
theorem d_Md_atLast_58 : decode prog_14_method_56_code 58 = .ok (.goto (-44), 3) := by decide +kernel
theorem d_Md_atLast_61 : decode prog_14_method_56_code 61 = .ok (.iload_n 1, 1) := by decide +kernel
theorem d_Md_atLast_62 : decode prog_14_method_56_code 62 = .ok (.ireturn, 1) := by decide +kernel
theorem d_Md_rule_0 : decode prog_14_method_57_code 0 = .ok (.iload_n 1, 1) := by decide +kernel
theorem d_Md_rule_1 : decode prog_14_method_57_code 1 = .ok (.invokestatic 227, 3) := by decide +kernel
theorem d_Md_rule_4 : decode prog_14_method_57_code 4 = .ok (.ifCond .ne 5, 3) := by decide +kernel
theorem d_Md_rule_7 : decode prog_14_method_57_code 7 = .ok (.iconst (-1), 1) := by decide +kernel
theorem d_Md_rule_8 : decode prog_14_method_57_code 8 = .ok (.ireturn, 1) := by decide +kernel
theorem d_Md_rule_9 : decode prog_14_method_57_code 9 = .ok (.bipush (-2), 2) := by decide +kernel
theorem d_Md_rule_11 : decode prog_14_method_57_code 11 = .ok (.istore_n 2, 1) := by decide +kernel
theorem d_Md_rule_12 : decode prog_14_method_57_code 12 = .ok (.iconst 4, 1) := by decide +kernel
theorem d_Md_rule_13 : decode prog_14_method_57_code 13 = .ok (.istore_n 3, 1) := by decide +kernel
theorem d_Md_rule_14 : decode prog_14_method_57_code 14 = .ok (.iload_n 3, 1) := by decide +kernel
theorem d_Md_rule_15 : decode prog_14_method_57_code 15 = .ok (.ifCond .lt 40, 3) := by decide +kernel
theorem d_Md_rule_18 : decode prog_14_method_57_code 18 = .ok (.aload_n 0, 1) := by decide +kernel
theorem d_Md_rule_19 : decode prog_14_method_57_code 19 = .ok (.iload_n 3, 1) := by decide +kernel
theorem d_Md_rule_20 : decode prog_14_method_57_code 20 = .ok (.putfield 36, 3) := by decide +kernel
theorem d_Md_rule_23 : decode prog_14_method_57_code 23 = .ok (.aload_n 0, 1) := by decide +kernel
theorem d_Md_rule_24 : decode prog_14_method_57_code 24 = .ok (.invokevirtual 230, 3) := by decide +kernel
theorem d_Md_rule_27 : decode prog_14_method_57_code 27 = .ok (.aload_n 0, 1) := by decide +kernel
theorem d_Md_rule_28 : decode prog_14_method_57_code 28 = .ok (.iload_n 1, 1) := by decide +kernel
theorem d_Md_rule_29 : decode prog_14_method_57_code 29 = .ok (.invokevirtual 233, 3) := by decide +kernel
theorem d_Md_rule_32 : decode prog_14_method_57_code 32 = .ok (.aload_n 0, 1) := by decide +kernel
theorem d_Md_rule_33 : decode prog_14_method_57_code 33 = .ok (.invokevirtual 239, 3) := by decide +kernel
theorem d_Md_rule_36 : decode prog_14_method_57_code 36 = .ok (.aload_n 0, 1) := by decide +kernel
theorem d_Md_rule_37 : decode prog_14_method_57_code 37 = .ok (.getfield 86, 3) := by decide +kernel
theorem d_Md_rule_40 : decode prog_14_method_57_code 40 = .ok (.if_icmp .ne 7, 3) := by decide +kernel
theorem d_Md_rule_43 : decode prog_14_method_57_code 43 = .ok (.iload_n 3, 1) := by decide +kernel
theorem d_Md_rule_44 : decode prog_14_method_57_code 44 = .ok (.goto 4, 3) := by decide +kernel
theorem d_Md_rule_47 : decode prog_14_method_57_code 47 = .ok (.iload_n 2, 1) := by decide +kernel
theorem d_Md_rule_48 : decode prog_14_method_57_code 48 = .ok (.istore_n 2, 1) := by decide +kernel
theorem d_Md_rule_49 : decode prog_14_method_57_code 49 = .ok (.iinc 3 (-1), 3) := by decide +kernel
theorem d_Md_rule_52 : decode prog_14_method_57_code 52 = .ok (.goto (-38), 3) := by decide +kernel
theorem d_Md_rule_55 : decode prog_14_method_57_code 55 = .ok (.aload_n 0, 1) := by decide +kernel
theorem d_Md_rule_56 : decode prog_14_method_57_code 56 = .ok (.iconst (-1), 1) := by decide +kernel
theorem d_Md_rule_57 : decode prog_14_method_57_code 57 = .ok (.putfield 36, 3) := by decide +kernel
theorem d_Md_rule_60 : decode prog_14_method_57_code 60 = .ok (.iload_n 2, 1) := by decide +kernel
theorem d_Md_rule_61 : decode prog_14_method_57_code 61 = .ok (.ireturn, 1) := by decide +kernel
theorem d_Md_bytesIs_0 : decode prog_14_method_58_code 0 = .ok (.iload_n 1, 1) := by decide +kernel
theorem d_Md_bytesIs_1 : decode prog_14_method_58_code 1 = .ok (.invokestatic 106, 3) := by decide +kernel
theorem d_Md_bytesIs_4 : decode prog_14_method_58_code 4 = .ok (.ifCond .ne 7, 3) := by decide +kernel
theorem d_Md_bytesIs_7 : decode prog_14_method_58_code 7 = .ok (.iconst (-1), 1) := by decide +kernel
theorem d_Md_bytesIs_8 : decode prog_14_method_58_code 8 = .ok (.goto 34, 3) := by decide +kernel
theorem d_Md_bytesIs_11 : decode prog_14_method_58_code 11 = .ok (.aload_n 0, 1) := by decide +kernel
theorem d_Md_bytesIs_12 : decode prog_14_method_58_code 12 = .ok (.getfield 64, 3) := by decide +kernel
theorem d_Md_bytesIs_15 : decode prog_14_method_58_code 15 = .ok (.iload_n 1, 1) := by decide +kernel
theorem d_Md_bytesIs_16 : decode prog_14_method_58_code 16 = .ok (.iaload, 1) := by decide +kernel
theorem d_Md_bytesIs_17 : decode prog_14_method_58_code 17 = .ok (.ifCond .ge 8, 3) := by decide +kernel
theorem d_Md_bytesIs_20 : decode prog_14_method_58_code 20 = .ok (.bipush (-11), 2) := by decide +kernel
theorem d_Md_bytesIs_22 : decode prog_14_method_58_code 22 = .ok (.goto 20, 3) := by decide +kernel
theorem d_Md_bytesIs_25 : decode prog_14_method_58_code 25 = .ok (.aload_n 0, 1) := by decide +kernel
theorem d_Md_bytesIs_26 : decode prog_14_method_58_code 26 = .ok (.getfield 64, 3) := by decide +kernel
theorem d_Md_bytesIs_29 : decode prog_14_method_58_code 29 = .ok (.iload_n 1, 1) := by decide +kernel
theorem d_Md_bytesIs_30 : decode prog_14_method_58_code 30 = .ok (.iaload, 1) := by decide +kernel
theorem d_Md_bytesIs_31 : decode prog_14_method_58_code 31 = .ok (.bipush 50, 2) := by decide +kernel
theorem d_Md_bytesIs_33 : decode prog_14_method_58_code 33 = .ok (.if_icmp .ne 7, 3) := by decide +kernel
theorem d_Md_bytesIs_36 : decode prog_14_method_58_code 36 = .ok (.iconst 1, 1) := by decide +kernel
theorem d_Md_bytesIs_37 : decode prog_14_method_58_code 37 = .ok (.goto 5, 3) := by decide +kernel
theorem d_Md_bytesIs_40 : decode prog_14_method_58_code 40 = .ok (.bipush (-12), 2) := by decide +kernel
theorem d_Md_bytesIs_42 : decode prog_14_method_58_code 42 = .ok (.ireturn, 1) := by decide +kernel
theorem d_Md_firstFalse_0 : decode prog_14_method_59_code 0 = .ok (.iconst 0, 1) := by decide +kernel
theorem d_Md_firstFalse_1 : decode prog_14_method_59_code 1 = .ok (.istore_n 2, 1) := by decide +kernel
theorem d_Md_firstFalse_2 : decode prog_14_method_59_code 2 = .ok (.iload_n 2, 1) := by decide +kernel
theorem d_Md_firstFalse_3 : decode prog_14_method_59_code 3 = .ok (.aload_n 0, 1) := by decide +kernel
theorem d_Md_firstFalse_4 : decode prog_14_method_59_code 4 = .ok (.getfield 67, 3) := by decide +kernel
theorem d_Md_firstFalse_7 : decode prog_14_method_59_code 7 = .ok (.iload_n 1, 1) := by decide +kernel
theorem d_Md_firstFalse_8 : decode prog_14_method_59_code 8 = .ok (.iaload, 1) := by decide +kernel
theorem d_Md_firstFalse_9 : decode prog_14_method_59_code 9 = .ok (.if_icmp .ge 42, 3) := by decide +kernel
theorem d_Md_firstFalse_12 : decode prog_14_method_59_code 12 = .ok (.aload_n 0, 1) := by decide +kernel
theorem d_Md_firstFalse_13 : decode prog_14_method_59_code 13 = .ok (.iload_n 2, 1) := by decide +kernel
theorem d_Md_firstFalse_14 : decode prog_14_method_59_code 14 = .ok (.invokevirtual 224, 3) := by decide +kernel
theorem d_Md_firstFalse_17 : decode prog_14_method_59_code 17 = .ok (.istore_n 3, 1) := by decide +kernel
theorem d_Md_firstFalse_18 : decode prog_14_method_59_code 18 = .ok (.aload_n 0, 1) := by decide +kernel
theorem d_Md_firstFalse_19 : decode prog_14_method_59_code 19 = .ok (.getfield 70, 3) := by decide +kernel
theorem d_Md_firstFalse_22 : decode prog_14_method_59_code 22 = .ok (.bipush 60, 2) := by decide +kernel
theorem d_Md_firstFalse_24 : decode prog_14_method_59_code 24 = .ok (.iload_n 1, 1) := by decide +kernel
theorem d_Md_firstFalse_25 : decode prog_14_method_59_code 25 = .ok (.imul, 1) := by decide +kernel
theorem d_Md_firstFalse_26 : decode prog_14_method_59_code 26 = .ok (.iload_n 2, 1) := by decide +kernel
theorem d_Md_firstFalse_27 : decode prog_14_method_59_code 27 = .ok (.iadd, 1) := by decide +kernel
theorem d_Md_firstFalse_28 : decode prog_14_method_59_code 28 = .ok (.laload, 1) := by decide +kernel
theorem d_Md_firstFalse_29 : decode prog_14_method_59_code 29 = .ok (.iload_n 3, 1) := by decide +kernel
theorem d_Md_firstFalse_30 : decode prog_14_method_59_code 30 = .ok (.ifCond .ge 7, 3) := by decide +kernel
theorem d_Md_firstFalse_33 : decode prog_14_method_59_code 33 = .ok (.iconst (-1), 1) := by decide +kernel
theorem d_Md_firstFalse_34 : decode prog_14_method_59_code 34 = .ok (.goto 4, 3) := by decide +kernel
theorem d_Md_firstFalse_37 : decode prog_14_method_59_code 37 = .ok (.iload_n 3, 1) := by decide +kernel
theorem d_Md_firstFalse_38 : decode prog_14_method_59_code 38 = .ok (.i2l, 1) := by decide +kernel
theorem d_Md_firstFalse_39 : decode prog_14_method_59_code 39 = .ok (.lcmp, 1) := by decide +kernel
theorem d_Md_firstFalse_40 : decode prog_14_method_59_code 40 = .ok (.ifCond .eq 5, 3) := by decide +kernel
theorem d_Md_firstFalse_43 : decode prog_14_method_59_code 43 = .ok (.iload_n 2, 1) := by decide +kernel
theorem d_Md_firstFalse_44 : decode prog_14_method_59_code 44 = .ok (.ireturn, 1) := by decide +kernel
theorem d_Md_firstFalse_45 : decode prog_14_method_59_code 45 = .ok (.iinc 2 1, 3) := by decide +kernel
theorem d_Md_firstFalse_48 : decode prog_14_method_59_code 48 = .ok (.goto (-46), 3) := by decide +kernel
theorem d_Md_firstFalse_51 : decode prog_14_method_59_code 51 = .ok (.bipush (-2), 2) := by decide +kernel
theorem d_Md_firstFalse_53 : decode prog_14_method_59_code 53 = .ok (.ireturn, 1) := by decide +kernel
theorem d_Md_judge_0 : decode prog_14_method_60_code 0 = .ok (.aload_n 0, 1) := by decide +kernel
theorem d_Md_judge_1 : decode prog_14_method_60_code 1 = .ok (.iload_n 1, 1) := by decide +kernel
theorem d_Md_judge_2 : decode prog_14_method_60_code 2 = .ok (.invokevirtual 266, 3) := by decide +kernel
theorem d_Md_judge_5 : decode prog_14_method_60_code 5 = .ok (.ifCond .ge 9, 3) := by decide +kernel
theorem d_Md_judge_8 : decode prog_14_method_60_code 8 = .ok (.aload_n 0, 1) := by decide +kernel
theorem d_Md_judge_9 : decode prog_14_method_60_code 9 = .ok (.iload_n 1, 1) := by decide +kernel
theorem d_Md_judge_10 : decode prog_14_method_60_code 10 = .ok (.invokevirtual 266, 3) := by decide +kernel
theorem d_Md_judge_13 : decode prog_14_method_60_code 13 = .ok (.ireturn, 1) := by decide +kernel
theorem d_Md_judge_14 : decode prog_14_method_60_code 14 = .ok (.aload_n 0, 1) := by decide +kernel
theorem d_Md_judge_15 : decode prog_14_method_60_code 15 = .ok (.invokevirtual 230, 3) := by decide +kernel
theorem d_Md_judge_18 : decode prog_14_method_60_code 18 = .ok (.aload_n 0, 1) := by decide +kernel
theorem d_Md_judge_19 : decode prog_14_method_60_code 19 = .ok (.iload_n 1, 1) := by decide +kernel
theorem d_Md_judge_20 : decode prog_14_method_60_code 20 = .ok (.invokevirtual 269, 3) := by decide +kernel
theorem d_Md_judge_23 : decode prog_14_method_60_code 23 = .ok (.ireturn, 1) := by decide +kernel
theorem d_Md_with_0 : decode prog_14_method_61_code 0 = .ok (.aload_n 0, 1) := by decide +kernel
theorem d_Md_with_1 : decode prog_14_method_61_code 1 = .ok (.iload_n 1, 1) := by decide +kernel
theorem d_Md_with_2 : decode prog_14_method_61_code 2 = .ok (.invokevirtual 266, 3) := by decide +kernel
theorem d_Md_with_5 : decode prog_14_method_61_code 5 = .ok (.iconst (-1), 1) := by decide +kernel
theorem d_Md_with_6 : decode prog_14_method_61_code 6 = .ok (.if_icmp .eq 13, 3) := by decide +kernel
theorem d_Md_with_9 : decode prog_14_method_61_code 9 = .ok (.iload_n 2, 1) := by decide +kernel
theorem d_Md_with_10 : decode prog_14_method_61_code 10 = .ok (.i2l, 1) := by decide +kernel
theorem d_Md_with_11 : decode prog_14_method_61_code 11 = .ok (.lconst 0, 1) := by decide +kernel
theorem d_Md_with_12 : decode prog_14_method_61_code 12 = .ok (.lconst 1, 1) := by decide +kernel
theorem d_Md_with_13 : decode prog_14_method_61_code 13 = .ok (.invokestatic 89, 3) := by decide +kernel
theorem d_Md_with_16 : decode prog_14_method_61_code 16 = .ok (.ifCond .ne 5, 3) := by decide +kernel
theorem d_Md_with_19 : decode prog_14_method_61_code 19 = .ok (.iconst (-1), 1) := by decide +kernel
theorem d_Md_with_20 : decode prog_14_method_61_code 20 = .ok (.ireturn, 1) := by decide +kernel
theorem d_Md_with_21 : decode prog_14_method_61_code 21 = .ok (.aload_n 0, 1) := by decide +kernel
theorem d_Md_with_22 : decode prog_14_method_61_code 22 = .ok (.iload_n 1, 1) := by decide +kernel
theorem d_Md_with_23 : decode prog_14_method_61_code 23 = .ok (.invokevirtual 266, 3) := by decide +kernel
theorem d_Md_with_26 : decode prog_14_method_61_code 26 = .ok (.ifCond .ge 9, 3) := by decide +kernel
theorem d_Md_with_29 : decode prog_14_method_61_code 29 = .ok (.aload_n 0, 1) := by decide +kernel
theorem d_Md_with_30 : decode prog_14_method_61_code 30 = .ok (.iload_n 1, 1) := by decide +kernel
theorem d_Md_with_31 : decode prog_14_method_61_code 31 = .ok (.invokevirtual 266, 3) := by decide +kernel
theorem d_Md_with_34 : decode prog_14_method_61_code 34 = .ok (.ireturn, 1) := by decide +kernel
theorem d_Md_with_35 : decode prog_14_method_61_code 35 = .ok (.aload_n 0, 1) := by decide +kernel
theorem d_Md_with_36 : decode prog_14_method_61_code 36 = .ok (.getfield 86, 3) := by decide +kernel
theorem d_Md_with_39 : decode prog_14_method_61_code 39 = .ok (.bipush 8, 2) := by decide +kernel
theorem d_Md_with_41 : decode prog_14_method_61_code 41 = .ok (.if_icmp .le 6, 3) := by decide +kernel
theorem d_Md_with_44 : decode prog_14_method_61_code 44 = .ok (.bipush (-5), 2) := by decide +kernel
theorem d_Md_with_46 : decode prog_14_method_61_code 46 = .ok (.ireturn, 1) := by decide +kernel
theorem d_Md_with_47 : decode prog_14_method_61_code 47 = .ok (.iconst 0, 1) := by decide +kernel
theorem d_Md_with_48 : decode prog_14_method_61_code 48 = .ok (.istore_n 3, 1) := by decide +kernel
theorem d_Md_with_49 : decode prog_14_method_61_code 49 = .ok (.iconst 1, 1) := by decide +kernel
theorem d_Md_with_50 : decode prog_14_method_61_code 50 = .ok (.aload_n 0, 1) := by decide +kernel
theorem d_Md_with_51 : decode prog_14_method_61_code 51 = .ok (.getfield 86, 3) := by decide +kernel
theorem d_Md_with_54 : decode prog_14_method_61_code 54 = .ok (.ishl, 1) := by decide +kernel
theorem d_Md_with_55 : decode prog_14_method_61_code 55 = .ok (.iconst 1, 1) := by decide +kernel
theorem d_Md_with_56 : decode prog_14_method_61_code 56 = .ok (.isub, 1) := by decide +kernel
theorem d_Md_with_57 : decode prog_14_method_61_code 57 = .ok (.istore 4, 2) := by decide +kernel
theorem d_Md_with_59 : decode prog_14_method_61_code 59 = .ok (.iconst 0, 1) := by decide +kernel
theorem d_Md_with_60 : decode prog_14_method_61_code 60 = .ok (.istore 5, 2) := by decide +kernel
theorem d_Md_with_62 : decode prog_14_method_61_code 62 = .ok (.iload 5, 2) := by decide +kernel
theorem d_Md_with_64 : decode prog_14_method_61_code 64 = .ok (.iconst 1, 1) := by decide +kernel
theorem d_Md_with_65 : decode prog_14_method_61_code 65 = .ok (.aload_n 0, 1) := by decide +kernel
theorem d_Md_with_66 : decode prog_14_method_61_code 66 = .ok (.getfield 86, 3) := by decide +kernel
theorem d_Md_with_69 : decode prog_14_method_61_code 69 = .ok (.ishl, 1) := by decide +kernel
theorem d_Md_with_70 : decode prog_14_method_61_code 70 = .ok (.if_icmp .ge 39, 3) := by decide +kernel
theorem d_Md_with_73 : decode prog_14_method_61_code 73 = .ok (.aload_n 0, 1) := by decide +kernel
theorem d_Md_with_74 : decode prog_14_method_61_code 74 = .ok (.invokevirtual 230, 3) := by decide +kernel
theorem d_Md_with_77 : decode prog_14_method_61_code 77 = .ok (.aload_n 0, 1) := by decide +kernel
theorem d_Md_with_78 : decode prog_14_method_61_code 78 = .ok (.iload 5, 2) := by decide +kernel
theorem d_Md_with_80 : decode prog_14_method_61_code 80 = .ok (.putfield 202, 3) := by decide +kernel
theorem d_Md_with_83 : decode prog_14_method_61_code 83 = .ok (.aload_n 0, 1) := by decide +kernel
theorem d_Md_with_84 : decode prog_14_method_61_code 84 = .ok (.iload_n 1, 1) := by decide +kernel
theorem d_Md_with_85 : decode prog_14_method_61_code 85 = .ok (.invokevirtual 269, 3) := by decide +kernel
theorem d_Md_with_88 : decode prog_14_method_61_code 88 = .ok (.bipush (-2), 2) := by decide +kernel
theorem d_Md_with_90 : decode prog_14_method_61_code 90 = .ok (.if_icmp .ne 13, 3) := by decide +kernel
theorem d_Md_with_93 : decode prog_14_method_61_code 93 = .ok (.iinc 3 1, 3) := by decide +kernel
theorem d_Md_with_96 : decode prog_14_method_61_code 96 = .ok (.iload 4, 2) := by decide +kernel
theorem d_Md_with_98 : decode prog_14_method_61_code 98 = .ok (.iload 5, 2) := by decide +kernel
theorem d_Md_with_100 : decode prog_14_method_61_code 100 = .ok (.iand, 1) := by decide +kernel
theorem d_Md_with_101 : decode prog_14_method_61_code 101 = .ok (.istore 4, 2) := by decide +kernel
theorem d_Md_with_103 : decode prog_14_method_61_code 103 = .ok (.iinc 5 1, 3) := by decide +kernel
theorem d_Md_with_106 : decode prog_14_method_61_code 106 = .ok (.goto (-44), 3) := by decide +kernel
theorem d_Md_with_109 : decode prog_14_method_61_code 109 = .ok (.iload_n 2, 1) := by decide +kernel
theorem d_Md_with_110 : decode prog_14_method_61_code 110 = .ok (.ifCond .ne 7, 3) := by decide +kernel
theorem d_Md_with_113 : decode prog_14_method_61_code 113 = .ok (.iload_n 3, 1) := by decide +kernel
theorem d_Md_with_114 : decode prog_14_method_61_code 114 = .ok (.goto 14, 3) := by decide +kernel
theorem d_Md_with_117 : decode prog_14_method_61_code 117 = .ok (.iload_n 3, 1) := by decide +kernel
theorem d_Md_with_118 : decode prog_14_method_61_code 118 = .ok (.ifCond .ne 8, 3) := by decide +kernel
theorem d_Md_with_121 : decode prog_14_method_61_code 121 = .ok (.bipush (-2), 2) := by decide +kernel
theorem d_Md_with_123 : decode prog_14_method_61_code 123 = .ok (.goto 5, 3) := by decide +kernel
theorem d_Md_with_126 : decode prog_14_method_61_code 126 = .ok (.iload 4, 2) := by decide +kernel
theorem d_Md_with_128 : decode prog_14_method_61_code 128 = .ok (.ireturn, 1) := by decide +kernel
theorem d_Md_wears_0 : decode prog_14_method_62_code 0 = .ok (.iconst 0, 1) := by decide +kernel
theorem d_Md_wears_1 : decode prog_14_method_62_code 1 = .ok (.istore_n 2, 1) := by decide +kernel
theorem d_Md_wears_2 : decode prog_14_method_62_code 2 = .ok (.iload_n 2, 1) := by decide +kernel
theorem d_Md_wears_3 : decode prog_14_method_62_code 3 = .ok (.aload_n 0, 1) := by decide +kernel
theorem d_Md_wears_4 : decode prog_14_method_62_code 4 = .ok (.getfield 86, 3) := by decide +kernel
theorem d_Md_wears_7 : decode prog_14_method_62_code 7 = .ok (.if_icmp .ge 53, 3) := by decide +kernel
