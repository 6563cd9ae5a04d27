theorem d_Mo_element_1 : decode prog_1_method_44_code 1 = .ok (.iload_n 1, 1) := by decide +kernel
theorem d_Mo_element_2 : decode prog_1_method_44_code 2 = .ok (.invokevirtual 317, 3) := by decide +kernel
theorem d_Mo_element_5 : decode prog_1_method_44_code 5 = .ok (.ifCond .ne 15, 3) := by decide +kernel
theorem d_Mo_element_8 : decode prog_1_method_44_code 8 = .ok (.aload_n 0, 1) := by decide +kernel
theorem d_Mo_element_9 : decode prog_1_method_44_code 9 = .ok (.getfield 56, 3) := by decide +kernel
theorem d_Mo_element_12 : decode prog_1_method_44_code 12 = .ok (.iload_n 1, 1) := by decide +kernel
theorem d_Mo_element_13 : decode prog_1_method_44_code 13 = .ok (.iload_n 2, 1) := by decide +kernel
theorem d_Mo_element_14 : decode prog_1_method_44_code 14 = .ok (.invokevirtual 119, 3) := by decide +kernel
theorem d_Mo_element_17 : decode prog_1_method_44_code 17 = .ok (.ifCond .ne 7, 3) := by decide +kernel
theorem d_Mo_element_20 : decode prog_1_method_44_code 20 = .ok (.ldc2_w 198, 3) := by decide +kernel
theorem d_Mo_element_23 : decode prog_1_method_44_code 23 = .ok (.lreturn, 1) := by decide +kernel
theorem d_Mo_element_24 : decode prog_1_method_44_code 24 = .ok (.aload_n 0, 1) := by decide +kernel
theorem d_Mo_element_25 : decode prog_1_method_44_code 25 = .ok (.getfield 56, 3) := by decide +kernel
theorem d_Mo_element_28 : decode prog_1_method_44_code 28 = .ok (.iload_n 1, 1) := by decide +kernel
theorem d_Mo_element_29 : decode prog_1_method_44_code 29 = .ok (.iload_n 2, 1) := by decide +kernel
theorem d_Mo_element_30 : decode prog_1_method_44_code 30 = .ok (.invokevirtual 122, 3) := by decide +kernel
theorem d_Mo_element_33 : decode prog_1_method_44_code 33 = .ok (.lreturn, 1) := by decide +kernel
theorem d_Mo_shift_0 : decode prog_1_method_45_code 0 = .ok (.iload_n 1, 1) := by decide +kernel
theorem d_Mo_shift_1 : decode prog_1_method_45_code 1 = .ok (.invokestatic 106, 3) := by decide +kernel
theorem d_Mo_shift_4 : decode prog_1_method_45_code 4 = .ok (.ifCond .eq 10, 3) := by decide +kernel
theorem d_Mo_shift_7 : decode prog_1_method_45_code 7 = .ok (.iload_n 3, 1) := by decide +kernel
theorem d_Mo_shift_8 : decode prog_1_method_45_code 8 = .ok (.invokestatic 106, 3) := by decide +kernel
theorem d_Mo_shift_11 : decode prog_1_method_45_code 11 = .ok (.ifCond .ne 5, 3) := by decide +kernel
theorem d_Mo_shift_14 : decode prog_1_method_45_code 14 = .ok (.iconst (-1), 1) := by decide +kernel
theorem d_Mo_shift_15 : decode prog_1_method_45_code 15 = .ok (.ireturn, 1) := by decide +kernel
theorem d_Mo_shift_16 : decode prog_1_method_45_code 16 = .ok (.aload_n 0, 1) := by decide +kernel
theorem d_Mo_shift_17 : decode prog_1_method_45_code 17 = .ok (.getfield 56, 3) := by decide +kernel
theorem d_Mo_shift_20 : decode prog_1_method_45_code 20 = .ok (.iload_n 1, 1) := by decide +kernel
theorem d_Mo_shift_21 : decode prog_1_method_45_code 21 = .ok (.invokevirtual 110, 3) := by decide +kernel
theorem d_Mo_shift_24 : decode prog_1_method_45_code 24 = .ok (.ifCond .ne 14, 3) := by decide +kernel
theorem d_Mo_shift_27 : decode prog_1_method_45_code 27 = .ok (.aload_n 0, 1) := by decide +kernel
theorem d_Mo_shift_28 : decode prog_1_method_45_code 28 = .ok (.getfield 56, 3) := by decide +kernel
theorem d_Mo_shift_31 : decode prog_1_method_45_code 31 = .ok (.iload_n 3, 1) := by decide +kernel
theorem d_Mo_shift_32 : decode prog_1_method_45_code 32 = .ok (.invokevirtual 110, 3) := by decide +kernel
theorem d_Mo_shift_35 : decode prog_1_method_45_code 35 = .ok (.ifCond .eq 6, 3) := by decide +kernel
theorem d_Mo_shift_38 : decode prog_1_method_45_code 38 = .ok (.bipush (-11), 2) := by decide +kernel
theorem d_Mo_shift_40 : decode prog_1_method_45_code 40 = .ok (.ireturn, 1) := by decide +kernel
theorem d_Mo_shift_41 : decode prog_1_method_45_code 41 = .ok (.aload_n 0, 1) := by decide +kernel
theorem d_Mo_shift_42 : decode prog_1_method_45_code 42 = .ok (.getfield 56, 3) := by decide +kernel
theorem d_Mo_shift_45 : decode prog_1_method_45_code 45 = .ok (.iload_n 1, 1) := by decide +kernel
theorem d_Mo_shift_46 : decode prog_1_method_45_code 46 = .ok (.iload_n 3, 1) := by decide +kernel
theorem d_Mo_shift_47 : decode prog_1_method_45_code 47 = .ok (.invokevirtual 324, 3) := by decide +kernel
theorem d_Mo_shift_50 : decode prog_1_method_45_code 50 = .ok (.ifCond .ne 6, 3) := by decide +kernel
theorem d_Mo_shift_53 : decode prog_1_method_45_code 53 = .ok (.bipush (-12), 2) := by decide +kernel
theorem d_Mo_shift_55 : decode prog_1_method_45_code 55 = .ok (.ireturn, 1) := by decide +kernel
theorem d_Mo_shift_56 : decode prog_1_method_45_code 56 = .ok (.aload_n 0, 1) := by decide +kernel
theorem d_Mo_shift_57 : decode prog_1_method_45_code 57 = .ok (.getfield 56, 3) := by decide +kernel
theorem d_Mo_shift_60 : decode prog_1_method_45_code 60 = .ok (.iload_n 1, 1) := by decide +kernel
theorem d_Mo_shift_61 : decode prog_1_method_45_code 61 = .ok (.iload_n 2, 1) := by decide +kernel
theorem d_Mo_shift_62 : decode prog_1_method_45_code 62 = .ok (.iload 5, 2) := by decide +kernel
theorem d_Mo_shift_64 : decode prog_1_method_45_code 64 = .ok (.invokevirtual 327, 3) := by decide +kernel
theorem d_Mo_shift_67 : decode prog_1_method_45_code 67 = .ok (.ifCond .eq 18, 3) := by decide +kernel
theorem d_Mo_shift_70 : decode prog_1_method_45_code 70 = .ok (.aload_n 0, 1) := by decide +kernel
theorem d_Mo_shift_71 : decode prog_1_method_45_code 71 = .ok (.getfield 56, 3) := by decide +kernel
theorem d_Mo_shift_74 : decode prog_1_method_45_code 74 = .ok (.iload_n 3, 1) := by decide +kernel
theorem d_Mo_shift_75 : decode prog_1_method_45_code 75 = .ok (.iload 4, 2) := by decide +kernel
theorem d_Mo_shift_77 : decode prog_1_method_45_code 77 = .ok (.iload 5, 2) := by decide +kernel
theorem d_Mo_shift_79 : decode prog_1_method_45_code 79 = .ok (.invokevirtual 327, 3) := by decide +kernel
theorem d_Mo_shift_82 : decode prog_1_method_45_code 82 = .ok (.ifCond .ne 6, 3) := by decide +kernel
theorem d_Mo_shift_85 : decode prog_1_method_45_code 85 = .ok (.bipush (-13), 2) := by decide +kernel
theorem d_Mo_shift_87 : decode prog_1_method_45_code 87 = .ok (.ireturn, 1) := by decide +kernel
theorem d_Mo_shift_88 : decode prog_1_method_45_code 88 = .ok (.aload_n 0, 1) := by decide +kernel
theorem d_Mo_shift_89 : decode prog_1_method_45_code 89 = .ok (.getfield 56, 3) := by decide +kernel
theorem d_Mo_shift_92 : decode prog_1_method_45_code 92 = .ok (.iload_n 1, 1) := by decide +kernel
theorem d_Mo_shift_93 : decode prog_1_method_45_code 93 = .ok (.iload_n 2, 1) := by decide +kernel
theorem d_Mo_shift_94 : decode prog_1_method_45_code 94 = .ok (.iload_n 3, 1) := by decide +kernel
theorem d_Mo_shift_95 : decode prog_1_method_45_code 95 = .ok (.iload 4, 2) := by decide +kernel
theorem d_Mo_shift_97 : decode prog_1_method_45_code 97 = .ok (.iload 5, 2) := by decide +kernel
theorem d_Mo_shift_99 : decode prog_1_method_45_code 99 = .ok (.invokevirtual 331, 3) := by decide +kernel
theorem d_Mo_shift_102 : decode prog_1_method_45_code 102 = .ok (.iload 5, 2) := by decide +kernel
theorem d_Mo_shift_104 : decode prog_1_method_45_code 104 = .ok (.ireturn, 1) := by decide +kernel
theorem d_Mo_taken_0 : decode prog_1_method_46_code 0 = .ok (.iload_n 1, 1) := by decide +kernel
theorem d_Mo_taken_1 : decode prog_1_method_46_code 1 = .ok (.invokestatic 106, 3) := by decide +kernel
theorem d_Mo_taken_4 : decode prog_1_method_46_code 4 = .ok (.ifCond .eq 10, 3) := by decide +kernel
theorem d_Mo_taken_7 : decode prog_1_method_46_code 7 = .ok (.iload_n 2, 1) := by decide +kernel
theorem d_Mo_taken_8 : decode prog_1_method_46_code 8 = .ok (.invokestatic 297, 3) := by decide +kernel
theorem d_Mo_taken_11 : decode prog_1_method_46_code 11 = .ok (.ifCond .ne 5, 3) := by decide +kernel
theorem d_Mo_taken_14 : decode prog_1_method_46_code 14 = .ok (.iconst (-1), 1) := by decide +kernel
theorem d_Mo_taken_15 : decode prog_1_method_46_code 15 = .ok (.ireturn, 1) := by decide +kernel
theorem d_Mo_taken_16 : decode prog_1_method_46_code 16 = .ok (.aload_n 0, 1) := by decide +kernel
theorem d_Mo_taken_17 : decode prog_1_method_46_code 17 = .ok (.getfield 56, 3) := by decide +kernel
theorem d_Mo_taken_20 : decode prog_1_method_46_code 20 = .ok (.iload_n 1, 1) := by decide +kernel
theorem d_Mo_taken_21 : decode prog_1_method_46_code 21 = .ok (.invokevirtual 110, 3) := by decide +kernel
theorem d_Mo_taken_24 : decode prog_1_method_46_code 24 = .ok (.ifCond .eq 6, 3) := by decide +kernel
theorem d_Mo_taken_27 : decode prog_1_method_46_code 27 = .ok (.bipush (-11), 2) := by decide +kernel
theorem d_Mo_taken_29 : decode prog_1_method_46_code 29 = .ok (.ireturn, 1) := by decide +kernel
theorem d_Mo_taken_30 : decode prog_1_method_46_code 30 = .ok (.aload_n 0, 1) := by decide +kernel
theorem d_Mo_taken_31 : decode prog_1_method_46_code 31 = .ok (.getfield 90, 3) := by decide +kernel
theorem d_Mo_taken_34 : decode prog_1_method_46_code 34 = .ok (.aload_n 0, 1) := by decide +kernel
theorem d_Mo_taken_35 : decode prog_1_method_46_code 35 = .ok (.getfield 56, 3) := by decide +kernel
theorem d_Mo_taken_38 : decode prog_1_method_46_code 38 = .ok (.iload_n 1, 1) := by decide +kernel
theorem d_Mo_taken_39 : decode prog_1_method_46_code 39 = .ok (.invokevirtual 335, 3) := by decide +kernel
theorem d_Mo_taken_42 : decode prog_1_method_46_code 42 = .ok (.invokevirtual 338, 3) := by decide +kernel
theorem d_Mo_taken_45 : decode prog_1_method_46_code 45 = .ok (.istore_n 3, 1) := by decide +kernel
theorem d_Mo_taken_46 : decode prog_1_method_46_code 46 = .ok (.iload_n 3, 1) := by decide +kernel
theorem d_Mo_taken_47 : decode prog_1_method_46_code 47 = .ok (.iload_n 2, 1) := by decide +kernel
theorem d_Mo_taken_48 : decode prog_1_method_46_code 48 = .ok (.invokestatic 341, 3) := by decide +kernel
theorem d_Mo_taken_51 : decode prog_1_method_46_code 51 = .ok (.ifCond .eq 7, 3) := by decide +kernel
theorem d_Mo_taken_54 : decode prog_1_method_46_code 54 = .ok (.iload_n 3, 1) := by decide +kernel
theorem d_Mo_taken_55 : decode prog_1_method_46_code 55 = .ok (.goto 5, 3) := by decide +kernel
theorem d_Mo_taken_58 : decode prog_1_method_46_code 58 = .ok (.bipush (-12), 2) := by decide +kernel
theorem d_Mo_taken_60 : decode prog_1_method_46_code 60 = .ok (.ireturn, 1) := by decide +kernel
theorem d_Mo_count_0 : decode prog_1_method_47_code 0 = .ok (.iload_n 1, 1) := by decide +kernel
theorem d_Mo_count_1 : decode prog_1_method_47_code 1 = .ok (.tableswitch 102 0 6 #[43, 51, 62, 70, 78, 86, 94], 43) := by decide +kernel
theorem d_Mo_count_44 : decode prog_1_method_47_code 44 = .ok (.aload_n 0, 1) := by decide +kernel
theorem d_Mo_count_45 : decode prog_1_method_47_code 45 = .ok (.getfield 10, 3) := by decide +kernel
theorem d_Mo_count_48 : decode prog_1_method_47_code 48 = .ok (.invokevirtual 98, 3) := by decide +kernel
theorem d_Mo_count_51 : decode prog_1_method_47_code 51 = .ok (.ireturn, 1) := by decide +kernel
theorem d_Mo_count_52 : decode prog_1_method_47_code 52 = .ok (.aload_n 0, 1) := by decide +kernel
theorem d_Mo_count_53 : decode prog_1_method_47_code 53 = .ok (.getfield 74, 3) := by decide +kernel
theorem d_Mo_count_56 : decode prog_1_method_47_code 56 = .ok (.invokevirtual 140, 3) := by decide +kernel
theorem d_Mo_count_59 : decode prog_1_method_47_code 59 = .ok (.invokestatic 344, 3) := by decide +kernel
theorem d_Mo_count_62 : decode prog_1_method_47_code 62 = .ok (.ireturn, 1) := by decide +kernel
theorem d_Mo_count_63 : decode prog_1_method_47_code 63 = .ok (.aload_n 0, 1) := by decide +kernel
theorem d_Mo_count_64 : decode prog_1_method_47_code 64 = .ok (.getfield 74, 3) := by decide +kernel
theorem d_Mo_count_67 : decode prog_1_method_47_code 67 = .ok (.invokevirtual 349, 3) := by decide +kernel
theorem d_Mo_count_70 : decode prog_1_method_47_code 70 = .ok (.ireturn, 1) := by decide +kernel
theorem d_Mo_count_71 : decode prog_1_method_47_code 71 = .ok (.aload_n 0, 1) := by decide +kernel
theorem d_Mo_count_72 : decode prog_1_method_47_code 72 = .ok (.getfield 26, 3) := by decide +kernel
theorem d_Mo_count_75 : decode prog_1_method_47_code 75 = .ok (.invokevirtual 352, 3) := by decide +kernel
theorem d_Mo_count_78 : decode prog_1_method_47_code 78 = .ok (.ireturn, 1) := by decide +kernel
theorem d_Mo_count_79 : decode prog_1_method_47_code 79 = .ok (.aload_n 0, 1) := by decide +kernel
theorem d_Mo_count_80 : decode prog_1_method_47_code 80 = .ok (.getfield 83, 3) := by decide +kernel
theorem d_Mo_count_83 : decode prog_1_method_47_code 83 = .ok (.invokevirtual 285, 3) := by decide +kernel
theorem d_Mo_count_86 : decode prog_1_method_47_code 86 = .ok (.ireturn, 1) := by decide +kernel
theorem d_Mo_count_87 : decode prog_1_method_47_code 87 = .ok (.aload_n 0, 1) := by decide +kernel
theorem d_Mo_count_88 : decode prog_1_method_47_code 88 = .ok (.getfield 90, 3) := by decide +kernel
theorem d_Mo_count_91 : decode prog_1_method_47_code 91 = .ok (.invokevirtual 300, 3) := by decide +kernel
theorem d_Mo_count_94 : decode prog_1_method_47_code 94 = .ok (.ireturn, 1) := by decide +kernel
theorem d_Mo_count_95 : decode prog_1_method_47_code 95 = .ok (.aload_n 0, 1) := by decide +kernel
theorem d_Mo_count_96 : decode prog_1_method_47_code 96 = .ok (.getfield 90, 3) := by decide +kernel
theorem d_Mo_count_99 : decode prog_1_method_47_code 99 = .ok (.invokevirtual 353, 3) := by decide +kernel
theorem d_Mo_count_102 : decode prog_1_method_47_code 102 = .ok (.ireturn, 1) := by decide +kernel
theorem d_Mo_count_103 : decode prog_1_method_47_code 103 = .ok (.iconst (-1), 1) := by decide +kernel
theorem d_Mo_count_104 : decode prog_1_method_47_code 104 = .ok (.ireturn, 1) := by decide +kernel
theorem d_Mo_refusedAsRow_0 : decode prog_1_method_48_code 0 = .ok (.iload_n 1, 1) := by decide +kernel
theorem d_Mo_refusedAsRow_1 : decode prog_1_method_48_code 1 = .ok (.invokestatic 106, 3) := by decide +kernel
theorem d_Mo_refusedAsRow_4 : decode prog_1_method_48_code 4 = .ok (.ifCond .ne 5, 3) := by decide +kernel
theorem d_Mo_refusedAsRow_7 : decode prog_1_method_48_code 7 = .ok (.iconst (-1), 1) := by decide +kernel
theorem d_Mo_refusedAsRow_8 : decode prog_1_method_48_code 8 = .ok (.ireturn, 1) := by decide +kernel
theorem d_Mo_refusedAsRow_9 : decode prog_1_method_48_code 9 = .ok (.aload_n 0, 1) := by decide +kernel
theorem d_Mo_refusedAsRow_10 : decode prog_1_method_48_code 10 = .ok (.getfield 56, 3) := by decide +kernel
theorem d_Mo_refusedAsRow_13 : decode prog_1_method_48_code 13 = .ok (.iload_n 1, 1) := by decide +kernel
theorem d_Mo_refusedAsRow_14 : decode prog_1_method_48_code 14 = .ok (.invokevirtual 110, 3) := by decide +kernel
theorem d_Mo_refusedAsRow_17 : decode prog_1_method_48_code 17 = .ok (.ifCond .eq 6, 3) := by decide +kernel
theorem d_Mo_refusedAsRow_20 : decode prog_1_method_48_code 20 = .ok (.bipush (-11), 2) := by decide +kernel
theorem d_Mo_refusedAsRow_22 : decode prog_1_method_48_code 22 = .ok (.ireturn, 1) := by decide +kernel
theorem d_Mo_refusedAsRow_23 : decode prog_1_method_48_code 23 = .ok (.aload_n 0, 1) := by decide +kernel
theorem d_Mo_refusedAsRow_24 : decode prog_1_method_48_code 24 = .ok (.getfield 56, 3) := by decide +kernel
theorem d_Mo_refusedAsRow_27 : decode prog_1_method_48_code 27 = .ok (.iload_n 1, 1) := by decide +kernel
theorem d_Mo_refusedAsRow_28 : decode prog_1_method_48_code 28 = .ok (.invokevirtual 335, 3) := by decide +kernel
theorem d_Mo_refusedAsRow_31 : decode prog_1_method_48_code 31 = .ok (.iconst (-1), 1) := by decide +kernel
theorem d_Mo_refusedAsRow_32 : decode prog_1_method_48_code 32 = .ok (.if_icmp .ne 7, 3) := by decide +kernel
theorem d_Mo_refusedAsRow_35 : decode prog_1_method_48_code 35 = .ok (.iconst 0, 1) := by decide +kernel
theorem d_Mo_refusedAsRow_36 : decode prog_1_method_48_code 36 = .ok (.goto 5, 3) := by decide +kernel
theorem d_Mo_refusedAsRow_39 : decode prog_1_method_48_code 39 = .ok (.bipush (-12), 2) := by decide +kernel
theorem d_Mo_refusedAsRow_41 : decode prog_1_method_48_code 41 = .ok (.ireturn, 1) := by decide +kernel
theorem d_Mo_isOneOrAll_0 : decode prog_1_method_49_code 0 = .ok (.iload_n 1, 1) := by decide +kernel
theorem d_Mo_isOneOrAll_1 : decode prog_1_method_49_code 1 = .ok (.iconst (-1), 1) := by decide +kernel
theorem d_Mo_isOneOrAll_2 : decode prog_1_method_49_code 2 = .ok (.if_icmp .eq 14, 3) := by decide +kernel
theorem d_Mo_isOneOrAll_5 : decode prog_1_method_49_code 5 = .ok (.aload_n 0, 1) := by decide +kernel
theorem d_Mo_isOneOrAll_6 : decode prog_1_method_49_code 6 = .ok (.getfield 10, 3) := by decide +kernel
theorem d_Mo_isOneOrAll_9 : decode prog_1_method_49_code 9 = .ok (.iload_n 1, 1) := by decide +kernel
theorem d_Mo_isOneOrAll_10 : decode prog_1_method_49_code 10 = .ok (.invokevirtual 126, 3) := by decide +kernel
theorem d_Mo_isOneOrAll_13 : decode prog_1_method_49_code 13 = .ok (.ifCond .eq 7, 3) := by decide +kernel
theorem d_Mo_isOneOrAll_16 : decode prog_1_method_49_code 16 = .ok (.iconst 1, 1) := by decide +kernel
theorem d_Mo_isOneOrAll_17 : decode prog_1_method_49_code 17 = .ok (.goto 4, 3) := by decide +kernel
theorem d_Mo_isOneOrAll_20 : decode prog_1_method_49_code 20 = .ok (.iconst 0, 1) := by decide +kernel
theorem d_Mo_isOneOrAll_21 : decode prog_1_method_49_code 21 = .ok (.ireturn, 1) := by decide +kernel
theorem d_Mo_isDay_0 : decode prog_1_method_50_code 0 = .ok (.iload_n 0, 1) := by decide +kernel
theorem d_Mo_isDay_1 : decode prog_1_method_50_code 1 = .ok (.ifCond .lt 13, 3) := by decide +kernel
theorem d_Mo_isDay_4 : decode prog_1_method_50_code 4 = .ok (.iload_n 0, 1) := by decide +kernel
theorem d_Mo_isDay_5 : decode prog_1_method_50_code 5 = .ok (.bipush 100, 2) := by decide +kernel
theorem d_Mo_isDay_7 : decode prog_1_method_50_code 7 = .ok (.if_icmp .gt 7, 3) := by decide +kernel
theorem d_Mo_isDay_10 : decode prog_1_method_50_code 10 = .ok (.iconst 1, 1) := by decide +kernel
theorem d_Mo_isDay_11 : decode prog_1_method_50_code 11 = .ok (.goto 4, 3) := by decide +kernel
theorem d_Mo_isDay_14 : decode prog_1_method_50_code 14 = .ok (.iconst 0, 1) := by decide +kernel
theorem d_Mo_isDay_15 : decode prog_1_method_50_code 15 = .ok (.ireturn, 1) := by decide +kernel
theorem d_Mo_isEither_0 : decode prog_1_method_51_code 0 = .ok (.iload_n 0, 1) := by decide +kernel
theorem d_Mo_isEither_1 : decode prog_1_method_51_code 1 = .ok (.ifCond .eq 8, 3) := by decide +kernel
theorem d_Mo_isEither_4 : decode prog_1_method_51_code 4 = .ok (.iload_n 0, 1) := by decide +kernel
theorem d_Mo_isEither_5 : decode prog_1_method_51_code 5 = .ok (.iconst 1, 1) := by decide +kernel
theorem d_Mo_isEither_6 : decode prog_1_method_51_code 6 = .ok (.if_icmp .ne 7, 3) := by decide +kernel
theorem d_Mo_isEither_9 : decode prog_1_method_51_code 9 = .ok (.iconst 1, 1) := by decide +kernel
theorem d_Mo_isEither_10 : decode prog_1_method_51_code 10 = .ok (.goto 4, 3) := by decide +kernel
theorem d_Mo_isEither_13 : decode prog_1_method_51_code 13 = .ok (.iconst 0, 1) := by decide +kernel
theorem d_Mo_isEither_14 : decode prog_1_method_51_code 14 = .ok (.ireturn, 1) := by decide +kernel
theorem d_Md_within_0 : decode prog_14_method_1_code 0 = .ok (.lload_n 0, 1) := by decide +kernel
theorem d_Md_within_1 : decode prog_14_method_1_code 1 = .ok (.lload_n 2, 1) := by decide +kernel
theorem d_Md_within_2 : decode prog_14_method_1_code 2 = .ok (.lcmp, 1) := by decide +kernel
theorem d_Md_within_3 : decode prog_14_method_1_code 3 = .ok (.ifCond .lt 14, 3) := by decide +kernel
theorem d_Md_within_6 : decode prog_14_method_1_code 6 = .ok (.lload_n 0, 1) := by decide +kernel
theorem d_Md_within_7 : decode prog_14_method_1_code 7 = .ok (.lload 4, 2) := by decide +kernel
theorem d_Md_within_9 : decode prog_14_method_1_code 9 = .ok (.lcmp, 1) := by decide +kernel
theorem d_Md_within_10 : decode prog_14_method_1_code 10 = .ok (.ifCond .gt 7, 3) := by decide +kernel
theorem d_Md_within_13 : decode prog_14_method_1_code 13 = .ok (.iconst 1, 1) := by decide +kernel
theorem d_Md_within_14 : decode prog_14_method_1_code 14 = .ok (.goto 4, 3) := by decide +kernel
theorem d_Md_within_17 : decode prog_14_method_1_code 17 = .ok (.iconst 0, 1) := by decide +kernel
theorem d_Md_within_18 : decode prog_14_method_1_code 18 = .ok (.ireturn, 1) := by decide +kernel
theorem d_Md_isIn_0 : decode prog_14_method_2_code 0 = .ok (.iload_n 0, 1) := by decide +kernel
theorem d_Md_isIn_1 : decode prog_14_method_2_code 1 = .ok (.iload_n 1, 1) := by decide +kernel
theorem d_Md_isIn_2 : decode prog_14_method_2_code 2 = .ok (.ishr, 1) := by decide +kernel
theorem d_Md_isIn_3 : decode prog_14_method_2_code 3 = .ok (.iconst 1, 1) := by decide +kernel
theorem d_Md_isIn_4 : decode prog_14_method_2_code 4 = .ok (.iand, 1) := by decide +kernel
theorem d_Md_isIn_5 : decode prog_14_method_2_code 5 = .ok (.iconst 1, 1) := by decide +kernel
theorem d_Md_isIn_6 : decode prog_14_method_2_code 6 = .ok (.if_icmp .ne 7, 3) := by decide +kernel
theorem d_Md_isIn_9 : decode prog_14_method_2_code 9 = .ok (.iconst 1, 1) := by decide +kernel
theorem d_Md_isIn_10 : decode prog_14_method_2_code 10 = .ok (.goto 4, 3) := by decide +kernel
theorem d_Md_isIn_13 : decode prog_14_method_2_code 13 = .ok (.iconst 0, 1) := by decide +kernel
theorem d_Md_isIn_14 : decode prog_14_method_2_code 14 = .ok (.ireturn, 1) := by decide +kernel
theorem d_Md_bitsOf_0 : decode prog_14_method_3_code 0 = .ok (.iconst 0, 1) := by decide +kernel
theorem d_Md_bitsOf_1 : decode prog_14_method_3_code 1 = .ok (.istore_n 1, 1) := by decide +kernel
theorem d_Md_bitsOf_2 : decode prog_14_method_3_code 2 = .ok (.iload_n 0, 1) := by decide +kernel
theorem d_Md_bitsOf_3 : decode prog_14_method_3_code 3 = .ok (.istore_n 2, 1) := by decide +kernel
theorem d_Md_bitsOf_4 : decode prog_14_method_3_code 4 = .ok (.iload_n 2, 1) := by decide +kernel
theorem d_Md_bitsOf_5 : decode prog_14_method_3_code 5 = .ok (.ifCond .eq 15, 3) := by decide +kernel
theorem d_Md_bitsOf_8 : decode prog_14_method_3_code 8 = .ok (.iinc 1 1, 3) := by decide +kernel
theorem d_Md_bitsOf_11 : decode prog_14_method_3_code 11 = .ok (.iload_n 2, 1) := by decide +kernel
theorem d_Md_bitsOf_12 : decode prog_14_method_3_code 12 = .ok (.iload_n 2, 1) := by decide +kernel
theorem d_Md_bitsOf_13 : decode prog_14_method_3_code 13 = .ok (.iconst 1, 1) := by decide +kernel
theorem d_Md_bitsOf_14 : decode prog_14_method_3_code 14 = .ok (.isub, 1) := by decide +kernel
theorem d_Md_bitsOf_15 : decode prog_14_method_3_code 15 = .ok (.iand, 1) := by decide +kernel
theorem d_Md_bitsOf_16 : decode prog_14_method_3_code 16 = .ok (.istore_n 2, 1) := by decide +kernel
theorem d_Md_bitsOf_17 : decode prog_14_method_3_code 17 = .ok (.goto (-13), 3) := by decide +kernel
theorem d_Md_bitsOf_20 : decode prog_14_method_3_code 20 = .ok (.iload_n 1, 1) := by decide +kernel
theorem d_Md_bitsOf_21 : decode prog_14_method_3_code 21 = .ok (.ireturn, 1) := by decide +kernel
theorem d_Md_init_0 : decode prog_14_method_4_code 0 = .ok (.aload_n 0, 1) := by decide +kernel
theorem d_Md_init_1 : decode prog_14_method_4_code 1 = .ok (.invokespecial 3, 3) := by decide +kernel
theorem d_Md_init_4 : decode prog_14_method_4_code 4 = .ok (.aload_n 0, 1) := by decide +kernel
theorem d_Md_init_5 : decode prog_14_method_4_code 5 = .ok (.bipush 75, 2) := by decide +kernel
theorem d_Md_init_7 : decode prog_14_method_4_code 7 = .ok (.newarray .int, 2) := by decide +kernel
theorem d_Md_init_9 : decode prog_14_method_4_code 9 = .ok (.putfield 11, 3) := by decide +kernel
theorem d_Md_init_12 : decode prog_14_method_4_code 12 = .ok (.aload_n 0, 1) := by decide +kernel
theorem d_Md_init_13 : decode prog_14_method_4_code 13 = .ok (.bipush 40, 2) := by decide +kernel
theorem d_Md_init_15 : decode prog_14_method_4_code 15 = .ok (.newarray .int, 2) := by decide +kernel
theorem d_Md_init_17 : decode prog_14_method_4_code 17 = .ok (.putfield 15, 3) := by decide +kernel
theorem d_Md_init_20 : decode prog_14_method_4_code 20 = .ok (.aload_n 0, 1) := by decide +kernel
theorem d_Md_init_21 : decode prog_14_method_4_code 21 = .ok (.bipush 40, 2) := by decide +kernel
theorem d_Md_init_23 : decode prog_14_method_4_code 23 = .ok (.newarray .int, 2) := by decide +kernel
theorem d_Md_init_25 : decode prog_14_method_4_code 25 = .ok (.putfield 18, 3) := by decide +kernel
theorem d_Md_init_28 : decode prog_14_method_4_code 28 = .ok (.aload_n 0, 1) := by decide +kernel
theorem d_Md_init_29 : decode prog_14_method_4_code 29 = .ok (.bipush 40, 2) := by decide +kernel
theorem d_Md_init_31 : decode prog_14_method_4_code 31 = .ok (.newarray .int, 2) := by decide +kernel
theorem d_Md_init_33 : decode prog_14_method_4_code 33 = .ok (.putfield 21, 3) := by decide +kernel
theorem d_Md_init_36 : decode prog_14_method_4_code 36 = .ok (.aload_n 0, 1) := by decide +kernel
theorem d_Md_init_37 : decode prog_14_method_4_code 37 = .ok (.bipush 12, 2) := by decide +kernel
theorem d_Md_init_39 : decode prog_14_method_4_code 39 = .ok (.newarray .int, 2) := by decide +kernel
theorem d_Md_init_41 : decode prog_14_method_4_code 41 = .ok (.putfield 24, 3) := by decide +kernel
theorem d_Md_init_44 : decode prog_14_method_4_code 44 = .ok (.aload_n 0, 1) := by decide +kernel
theorem d_Md_init_45 : decode prog_14_method_4_code 45 = .ok (.bipush 120, 2) := by decide +kernel
theorem d_Md_init_47 : decode prog_14_method_4_code 47 = .ok (.newarray .int, 2) := by decide +kernel
theorem d_Md_init_49 : decode prog_14_method_4_code 49 = .ok (.putfield 27, 3) := by decide +kernel
theorem d_Md_init_52 : decode prog_14_method_4_code 52 = .ok (.aload_n 0, 1) := by decide +kernel
theorem d_Md_init_53 : decode prog_14_method_4_code 53 = .ok (.bipush 120, 2) := by decide +kernel
theorem d_Md_init_55 : decode prog_14_method_4_code 55 = .ok (.newarray .int, 2) := by decide +kernel
theorem d_Md_init_57 : decode prog_14_method_4_code 57 = .ok (.putfield 30, 3) := by decide +kernel
theorem d_Md_init_60 : decode prog_14_method_4_code 60 = .ok (.aload_n 0, 1) := by decide +kernel
theorem d_Md_init_61 : decode prog_14_method_4_code 61 = .ok (.bipush 6, 2) := by decide +kernel
theorem d_Md_init_63 : decode prog_14_method_4_code 63 = .ok (.newarray .int, 2) := by decide +kernel
theorem d_Md_init_65 : decode prog_14_method_4_code 65 = .ok (.putfield 33, 3) := by decide +kernel
theorem d_Md_init_68 : decode prog_14_method_4_code 68 = .ok (.aload_n 0, 1) := by decide +kernel
theorem d_Md_init_69 : decode prog_14_method_4_code 69 = .ok (.iconst (-1), 1) := by decide +kernel
theorem d_Md_init_70 : decode prog_14_method_4_code 70 = .ok (.putfield 36, 3) := by decide +kernel
theorem d_Md_init_73 : decode prog_14_method_4_code 73 = .ok (.aload_n 0, 1) := by decide +kernel
theorem d_Md_init_74 : decode prog_14_method_4_code 74 = .ok (.bipush 15, 2) := by decide +kernel
theorem d_Md_init_76 : decode prog_14_method_4_code 76 = .ok (.newarray .int, 2) := by decide +kernel
theorem d_Md_init_78 : decode prog_14_method_4_code 78 = .ok (.putfield 40, 3) := by decide +kernel
theorem d_Md_init_81 : decode prog_14_method_4_code 81 = .ok (.aload_n 0, 1) := by decide +kernel
theorem d_Md_init_82 : decode prog_14_method_4_code 82 = .ok (.bipush 15, 2) := by decide +kernel
theorem d_Md_init_84 : decode prog_14_method_4_code 84 = .ok (.newarray .int, 2) := by decide +kernel
theorem d_Md_init_86 : decode prog_14_method_4_code 86 = .ok (.putfield 43, 3) := by decide +kernel
theorem d_Md_init_89 : decode prog_14_method_4_code 89 = .ok (.aload_n 0, 1) := by decide +kernel
theorem d_Md_init_90 : decode prog_14_method_4_code 90 = .ok (.bipush 15, 2) := by decide +kernel
theorem d_Md_init_92 : decode prog_14_method_4_code 92 = .ok (.newarray .int, 2) := by decide +kernel
theorem d_Md_init_94 : decode prog_14_method_4_code 94 = .ok (.putfield 46, 3) := by decide +kernel
theorem d_Md_init_97 : decode prog_14_method_4_code 97 = .ok (.aload_n 0, 1) := by decide +kernel
theorem d_Md_init_98 : decode prog_14_method_4_code 98 = .ok (.bipush 12, 2) := by decide +kernel
theorem d_Md_init_100 : decode prog_14_method_4_code 100 = .ok (.newarray .int, 2) := by decide +kernel
theorem d_Md_init_102 : decode prog_14_method_4_code 102 = .ok (.putfield 49, 3) := by decide +kernel
theorem d_Md_init_105 : decode prog_14_method_4_code 105 = .ok (.aload_n 0, 1) := by decide +kernel
theorem d_Md_init_106 : decode prog_14_method_4_code 106 = .ok (.bipush 12, 2) := by decide +kernel
theorem d_Md_init_108 : decode prog_14_method_4_code 108 = .ok (.newarray .int, 2) := by decide +kernel
theorem d_Md_init_110 : decode prog_14_method_4_code 110 = .ok (.putfield 52, 3) := by decide +kernel
theorem d_Md_init_113 : decode prog_14_method_4_code 113 = .ok (.aload_n 0, 1) := by decide +kernel
theorem d_Md_init_114 : decode prog_14_method_4_code 114 = .ok (.bipush 18, 2) := by decide +kernel
theorem d_Md_init_116 : decode prog_14_method_4_code 116 = .ok (.newarray .int, 2) := by decide +kernel
theorem d_Md_init_118 : decode prog_14_method_4_code 118 = .ok (.putfield 55, 3) := by decide +kernel
theorem d_Md_init_121 : decode prog_14_method_4_code 121 = .ok (.aload_n 0, 1) := by decide +kernel
theorem d_Md_init_122 : decode prog_14_method_4_code 122 = .ok (.bipush 50, 2) := by decide +kernel
theorem d_Md_init_124 : decode prog_14_method_4_code 124 = .ok (.newarray .int, 2) := by decide +kernel
theorem d_Md_init_126 : decode prog_14_method_4_code 126 = .ok (.putfield 58, 3) := by decide +kernel
theorem d_Md_init_129 : decode prog_14_method_4_code 129 = .ok (.aload_n 0, 1) := by decide +kernel
theorem d_Md_init_130 : decode prog_14_method_4_code 130 = .ok (.bipush 24, 2) := by decide +kernel
theorem d_Md_init_132 : decode prog_14_method_4_code 132 = .ok (.newarray .int, 2) := by decide +kernel
theorem d_Md_init_134 : decode prog_14_method_4_code 134 = .ok (.putfield 61, 3) := by decide +kernel
theorem d_Md_init_137 : decode prog_14_method_4_code 137 = .ok (.aload_n 0, 1) := by decide +kernel
theorem d_Md_init_138 : decode prog_14_method_4_code 138 = .ok (.bipush 6, 2) := by decide +kernel
theorem d_Md_init_140 : decode prog_14_method_4_code 140 = .ok (.newarray .int, 2) := by decide +kernel
theorem d_Md_init_142 : decode prog_14_method_4_code 142 = .ok (.putfield 64, 3) := by decide +kernel
theorem d_Md_init_145 : decode prog_14_method_4_code 145 = .ok (.aload_n 0, 1) := by decide +kernel
theorem d_Md_init_146 : decode prog_14_method_4_code 146 = .ok (.bipush 6, 2) := by decide +kernel
theorem d_Md_init_148 : decode prog_14_method_4_code 148 = .ok (.newarray .int, 2) := by decide +kernel
theorem d_Md_init_150 : decode prog_14_method_4_code 150 = .ok (.putfield 67, 3) := by decide +kernel
theorem d_Md_init_153 : decode prog_14_method_4_code 153 = .ok (.aload_n 0, 1) := by decide +kernel
theorem d_Md_init_154 : decode prog_14_method_4_code 154 = .ok (.sipush 360, 3) := by decide +kernel
theorem d_Md_init_157 : decode prog_14_method_4_code 157 = .ok (.newarray .long, 2) := by decide +kernel
theorem d_Md_init_159 : decode prog_14_method_4_code 159 = .ok (.putfield 70, 3) := by decide +kernel
theorem d_Md_init_162 : decode prog_14_method_4_code 162 = .ok (.aload_n 0, 1) := by decide +kernel
theorem d_Md_init_163 : decode prog_14_method_4_code 163 = .ok (.bipush 60, 2) := by decide +kernel
theorem d_Md_init_165 : decode prog_14_method_4_code 165 = .ok (.newarray .long, 2) := by decide +kernel
theorem d_Md_init_167 : decode prog_14_method_4_code 167 = .ok (.putfield 74, 3) := by decide +kernel
theorem d_Md_init_170 : decode prog_14_method_4_code 170 = .ok (.iconst 0, 1) := by decide +kernel
theorem d_Md_init_171 : decode prog_14_method_4_code 171 = .ok (.istore_n 1, 1) := by decide +kernel
theorem d_Md_init_172 : decode prog_14_method_4_code 172 = .ok (.iload_n 1, 1) := by decide +kernel
theorem d_Md_init_173 : decode prog_14_method_4_code 173 = .ok (.bipush 6, 2) := by decide +kernel
theorem d_Md_init_175 : decode prog_14_method_4_code 175 = .ok (.if_icmp .ge 16, 3) := by decide +kernel
theorem d_Md_init_178 : decode prog_14_method_4_code 178 = .ok (.aload_n 0, 1) := by decide +kernel
theorem d_Md_init_179 : decode prog_14_method_4_code 179 = .ok (.getfield 64, 3) := by decide +kernel
theorem d_Md_init_182 : decode prog_14_method_4_code 182 = .ok (.iload_n 1, 1) := by decide +kernel
theorem d_Md_init_183 : decode prog_14_method_4_code 183 = .ok (.iconst (-1), 1) := by decide +kernel
theorem d_Md_init_184 : decode prog_14_method_4_code 184 = .ok (.iastore, 1) := by decide +kernel
theorem d_Md_init_185 : decode prog_14_method_4_code 185 = .ok (.iinc 1 1, 3) := by decide +kernel
theorem d_Md_init_188 : decode prog_14_method_4_code 188 = .ok (.goto (-16), 3) := by decide +kernel
theorem d_Md_init_191 : decode prog_14_method_4_code 191 = .ok (.aload_n 0, 1) := by decide +kernel
theorem d_Md_init_192 : decode prog_14_method_4_code 192 = .ok (.iconst (-1), 1) := by decide +kernel
theorem d_Md_init_193 : decode prog_14_method_4_code 193 = .ok (.putfield 77, 3) := by decide +kernel
theorem d_Md_init_196 : decode prog_14_method_4_code 196 = .ok (.iconst 0, 1) := by decide +kernel
theorem d_Md_init_197 : decode prog_14_method_4_code 197 = .ok (.istore_n 1, 1) := by decide +kernel
theorem d_Md_init_198 : decode prog_14_method_4_code 198 = .ok (.iload_n 1, 1) := by decide +kernel
theorem d_Md_init_199 : decode prog_14_method_4_code 199 = .ok (.bipush 12, 2) := by decide +kernel
theorem d_Md_init_201 : decode prog_14_method_4_code 201 = .ok (.if_icmp .ge 17, 3) := by decide +kernel
theorem d_Md_init_204 : decode prog_14_method_4_code 204 = .ok (.aload_n 0, 1) := by decide +kernel
theorem d_Md_init_205 : decode prog_14_method_4_code 205 = .ok (.getfield 24, 3) := by decide +kernel
theorem d_Md_init_208 : decode prog_14_method_4_code 208 = .ok (.iload_n 1, 1) := by decide +kernel
theorem d_Md_init_209 : decode prog_14_method_4_code 209 = .ok (.bipush (-2), 2) := by decide +kernel
theorem d_Md_init_211 : decode prog_14_method_4_code 211 = .ok (.iastore, 1) := by decide +kernel
theorem d_Md_init_212 : decode prog_14_method_4_code 212 = .ok (.iinc 1 1, 3) := by decide +kernel
theorem d_Md_init_215 : decode prog_14_method_4_code 215 = .ok (.goto (-17), 3) := by decide +kernel
theorem d_Md_init_218 : decode prog_14_method_4_code 218 = .ok (.return_, 1) := by decide +kernel
theorem d_Md_becomes_0 : decode prog_14_method_5_code 0 = .ok (.aload_n 0, 1) := by decide +kernel
theorem d_Md_becomes_1 : decode prog_14_method_5_code 1 = .ok (.getfield 11, 3) := by decide +kernel
theorem d_Md_becomes_4 : decode prog_14_method_5_code 4 = .ok (.iload_n 1, 1) := by decide +kernel
theorem d_Md_becomes_5 : decode prog_14_method_5_code 5 = .ok (.iaload, 1) := by decide +kernel
theorem d_Md_becomes_6 : decode prog_14_method_5_code 6 = .ok (.istore_n 3, 1) := by decide +kernel
theorem d_Md_becomes_7 : decode prog_14_method_5_code 7 = .ok (.iload_n 3, 1) := by decide +kernel
theorem d_Md_becomes_8 : decode prog_14_method_5_code 8 = .ok (.iload_n 2, 1) := by decide +kernel
theorem d_Md_becomes_9 : decode prog_14_method_5_code 9 = .ok (.if_icmp .ne 5, 3) := by decide +kernel
theorem d_Md_becomes_12 : decode prog_14_method_5_code 12 = .ok (.iload_n 3, 1) := by decide +kernel
theorem d_Md_becomes_13 : decode prog_14_method_5_code 13 = .ok (.ireturn, 1) := by decide +kernel
theorem d_Md_becomes_14 : decode prog_14_method_5_code 14 = .ok (.aload_n 0, 1) := by decide +kernel
theorem d_Md_becomes_15 : decode prog_14_method_5_code 15 = .ok (.getfield 80, 3) := by decide +kernel
theorem d_Md_becomes_18 : decode prog_14_method_5_code 18 = .ok (.bipush 40, 2) := by decide +kernel
theorem d_Md_becomes_20 : decode prog_14_method_5_code 20 = .ok (.if_icmp .ne 77, 3) := by decide +kernel
theorem d_Md_becomes_23 : decode prog_14_method_5_code 23 = .ok (.iconst 1, 1) := by decide +kernel
theorem d_Md_becomes_24 : decode prog_14_method_5_code 24 = .ok (.istore 4, 2) := by decide +kernel
theorem d_Md_becomes_26 : decode prog_14_method_5_code 26 = .ok (.iload 4, 2) := by decide +kernel
theorem d_Md_becomes_28 : decode prog_14_method_5_code 28 = .ok (.bipush 40, 2) := by decide +kernel
theorem d_Md_becomes_30 : decode prog_14_method_5_code 30 = .ok (.if_icmp .ge 57, 3) := by decide +kernel
theorem d_Md_becomes_33 : decode prog_14_method_5_code 33 = .ok (.aload_n 0, 1) := by decide +kernel
theorem d_Md_becomes_34 : decode prog_14_method_5_code 34 = .ok (.getfield 15, 3) := by decide +kernel
theorem d_Md_becomes_37 : decode prog_14_method_5_code 37 = .ok (.iload 4, 2) := by decide +kernel
theorem d_Md_becomes_39 : decode prog_14_method_5_code 39 = .ok (.iconst 1, 1) := by decide +kernel
theorem d_Md_becomes_40 : decode prog_14_method_5_code 40 = .ok (.isub, 1) := by decide +kernel
theorem d_Md_becomes_41 : decode prog_14_method_5_code 41 = .ok (.aload_n 0, 1) := by decide +kernel
theorem d_Md_becomes_42 : decode prog_14_method_5_code 42 = .ok (.getfield 15, 3) := by decide +kernel
theorem d_Md_becomes_45 : decode prog_14_method_5_code 45 = .ok (.iload 4, 2) := by decide +kernel
theorem d_Md_becomes_47 : decode prog_14_method_5_code 47 = .ok (.iaload, 1) := by decide +kernel
theorem d_Md_becomes_48 : decode prog_14_method_5_code 48 = .ok (.iastore, 1) := by decide +kernel
theorem d_Md_becomes_49 : decode prog_14_method_5_code 49 = .ok (.aload_n 0, 1) := by decide +kernel
theorem d_Md_becomes_50 : decode prog_14_method_5_code 50 = .ok (.getfield 18, 3) := by decide +kernel
theorem d_Md_becomes_53 : decode prog_14_method_5_code 53 = .ok (.iload 4, 2) := by decide +kernel
theorem d_Md_becomes_55 : decode prog_14_method_5_code 55 = .ok (.iconst 1, 1) := by decide +kernel
theorem d_Md_becomes_56 : decode prog_14_method_5_code 56 = .ok (.isub, 1) := by decide +kernel
theorem d_Md_becomes_57 : decode prog_14_method_5_code 57 = .ok (.aload_n 0, 1) := by decide +kernel
theorem d_Md_becomes_58 : decode prog_14_method_5_code 58 = .ok (.getfield 18, 3) := by decide +kernel
theorem d_Md_becomes_61 : decode prog_14_method_5_code 61 = .ok (.iload 4, 2) := by decide +kernel
theorem d_Md_becomes_63 : decode prog_14_method_5_code 63 = .ok (.iaload, 1) := by decide +kernel
theorem d_Md_becomes_64 : decode prog_14_method_5_code 64 = .ok (.iastore, 1) := by decide +kernel
theorem d_Md_becomes_65 : decode prog_14_method_5_code 65 = .ok (.aload_n 0, 1) := by decide +kernel
theorem d_Md_becomes_66 : decode prog_14_method_5_code 66 = .ok (.getfield 21, 3) := by decide +kernel
theorem d_Md_becomes_69 : decode prog_14_method_5_code 69 = .ok (.iload 4, 2) := by decide +kernel
theorem d_Md_becomes_71 : decode prog_14_method_5_code 71 = .ok (.iconst 1, 1) := by decide +kernel
theorem d_Md_becomes_72 : decode prog_14_method_5_code 72 = .ok (.isub, 1) := by decide +kernel
theorem d_Md_becomes_73 : decode prog_14_method_5_code 73 = .ok (.aload_n 0, 1) := by decide +kernel
theorem d_Md_becomes_74 : decode prog_14_method_5_code 74 = .ok (.getfield 21, 3) := by decide +kernel
theorem d_Md_becomes_77 : decode prog_14_method_5_code 77 = .ok (.iload 4, 2) := by decide +kernel
theorem d_Md_becomes_79 : decode prog_14_method_5_code 79 = .ok (.iaload, 1) := by decide +kernel
theorem d_Md_becomes_80 : decode prog_14_method_5_code 80 = .ok (.iastore, 1) := by decide +kernel
theorem d_Md_becomes_81 : decode prog_14_method_5_code 81 = .ok (.iinc 4 1, 3) := by decide +kernel
theorem d_Md_becomes_84 : decode prog_14_method_5_code 84 = .ok (.goto (-58), 3) := by decide +kernel
theorem d_Md_becomes_87 : decode prog_14_method_5_code 87 = .ok (.aload_n 0, 1) := by decide +kernel
theorem d_Md_becomes_88 : decode prog_14_method_5_code 88 = .ok (.dup, 1) := by decide +kernel
theorem d_Md_becomes_89 : decode prog_14_method_5_code 89 = .ok (.getfield 80, 3) := by decide +kernel
theorem d_Md_becomes_92 : decode prog_14_method_5_code 92 = .ok (.iconst 1, 1) := by decide +kernel
theorem d_Md_becomes_93 : decode prog_14_method_5_code 93 = .ok (.isub, 1) := by decide +kernel
theorem d_Md_becomes_94 : decode prog_14_method_5_code 94 = .ok (.putfield 80, 3) := by decide +kernel
theorem d_Md_becomes_97 : decode prog_14_method_5_code 97 = .ok (.aload_n 0, 1) := by decide +kernel
theorem d_Md_becomes_98 : decode prog_14_method_5_code 98 = .ok (.getfield 15, 3) := by decide +kernel
theorem d_Md_becomes_101 : decode prog_14_method_5_code 101 = .ok (.aload_n 0, 1) := by decide +kernel
theorem d_Md_becomes_102 : decode prog_14_method_5_code 102 = .ok (.getfield 80, 3) := by decide +kernel
theorem d_Md_becomes_105 : decode prog_14_method_5_code 105 = .ok (.iload_n 1, 1) := by decide +kernel
theorem d_Md_becomes_106 : decode prog_14_method_5_code 106 = .ok (.iastore, 1) := by decide +kernel
theorem d_Md_becomes_107 : decode prog_14_method_5_code 107 = .ok (.aload_n 0, 1) := by decide +kernel
theorem d_Md_becomes_108 : decode prog_14_method_5_code 108 = .ok (.getfield 18, 3) := by decide +kernel
theorem d_Md_becomes_111 : decode prog_14_method_5_code 111 = .ok (.aload_n 0, 1) := by decide +kernel
theorem d_Md_becomes_112 : decode prog_14_method_5_code 112 = .ok (.getfield 80, 3) := by decide +kernel
theorem d_Md_becomes_115 : decode prog_14_method_5_code 115 = .ok (.iload_n 3, 1) := by decide +kernel
theorem d_Md_becomes_116 : decode prog_14_method_5_code 116 = .ok (.iastore, 1) := by decide +kernel
theorem d_Md_becomes_117 : decode prog_14_method_5_code 117 = .ok (.aload_n 0, 1) := by decide +kernel
theorem d_Md_becomes_118 : decode prog_14_method_5_code 118 = .ok (.getfield 21, 3) := by decide +kernel
theorem d_Md_becomes_121 : decode prog_14_method_5_code 121 = .ok (.aload_n 0, 1) := by decide +kernel
theorem d_Md_becomes_122 : decode prog_14_method_5_code 122 = .ok (.getfield 80, 3) := by decide +kernel
theorem d_Md_becomes_125 : decode prog_14_method_5_code 125 = .ok (.iload_n 2, 1) := by decide +kernel
theorem d_Md_becomes_126 : decode prog_14_method_5_code 126 = .ok (.iastore, 1) := by decide +kernel
theorem d_Md_becomes_127 : decode prog_14_method_5_code 127 = .ok (.aload_n 0, 1) := by decide +kernel
theorem d_Md_becomes_128 : decode prog_14_method_5_code 128 = .ok (.dup, 1) := by decide +kernel
theorem d_Md_becomes_129 : decode prog_14_method_5_code 129 = .ok (.getfield 80, 3) := by decide +kernel
theorem d_Md_becomes_132 : decode prog_14_method_5_code 132 = .ok (.iconst 1, 1) := by decide +kernel
theorem d_Md_becomes_133 : decode prog_14_method_5_code 133 = .ok (.iadd, 1) := by decide +kernel
theorem d_Md_becomes_134 : decode prog_14_method_5_code 134 = .ok (.putfield 80, 3) := by decide +kernel
theorem d_Md_becomes_137 : decode prog_14_method_5_code 137 = .ok (.aload_n 0, 1) := by decide +kernel
theorem d_Md_becomes_138 : decode prog_14_method_5_code 138 = .ok (.aload_n 0, 1) := by decide +kernel
theorem d_Md_becomes_139 : decode prog_14_method_5_code 139 = .ok (.getfield 80, 3) := by decide +kernel
theorem d_Md_becomes_142 : decode prog_14_method_5_code 142 = .ok (.putfield 83, 3) := by decide +kernel
theorem d_Md_becomes_145 : decode prog_14_method_5_code 145 = .ok (.aload_n 0, 1) := by decide +kernel
theorem d_Md_becomes_146 : decode prog_14_method_5_code 146 = .ok (.getfield 11, 3) := by decide +kernel
theorem d_Md_becomes_149 : decode prog_14_method_5_code 149 = .ok (.iload_n 1, 1) := by decide +kernel
theorem d_Md_becomes_150 : decode prog_14_method_5_code 150 = .ok (.iload_n 2, 1) := by decide +kernel
theorem d_Md_becomes_151 : decode prog_14_method_5_code 151 = .ok (.iastore, 1) := by decide +kernel
theorem d_Md_becomes_152 : decode prog_14_method_5_code 152 = .ok (.iload_n 3, 1) := by decide +kernel
theorem d_Md_becomes_153 : decode prog_14_method_5_code 153 = .ok (.ireturn, 1) := by decide +kernel
theorem d_Md_undo_0 : decode prog_14_method_6_code 0 = .ok (.aload_n 0, 1) := by decide +kernel
theorem d_Md_undo_1 : decode prog_14_method_6_code 1 = .ok (.getfield 80, 3) := by decide +kernel
theorem d_Md_undo_4 : decode prog_14_method_6_code 4 = .ok (.ifCond .ne 6, 3) := by decide +kernel
theorem d_Md_undo_7 : decode prog_14_method_6_code 7 = .ok (.bipush (-5), 2) := by decide +kernel
theorem d_Md_undo_9 : decode prog_14_method_6_code 9 = .ok (.ireturn, 1) := by decide +kernel
theorem d_Md_undo_10 : decode prog_14_method_6_code 10 = .ok (.aload_n 0, 1) := by decide +kernel
theorem d_Md_undo_11 : decode prog_14_method_6_code 11 = .ok (.dup, 1) := by decide +kernel
theorem d_Md_undo_12 : decode prog_14_method_6_code 12 = .ok (.getfield 80, 3) := by decide +kernel
theorem d_Md_undo_15 : decode prog_14_method_6_code 15 = .ok (.iconst 1, 1) := by decide +kernel
theorem d_Md_undo_16 : decode prog_14_method_6_code 16 = .ok (.isub, 1) := by decide +kernel
theorem d_Md_undo_17 : decode prog_14_method_6_code 17 = .ok (.putfield 80, 3) := by decide +kernel
theorem d_Md_undo_20 : decode prog_14_method_6_code 20 = .ok (.aload_n 0, 1) := by decide +kernel
theorem d_Md_undo_21 : decode prog_14_method_6_code 21 = .ok (.getfield 11, 3) := by decide +kernel
theorem d_Md_undo_24 : decode prog_14_method_6_code 24 = .ok (.aload_n 0, 1) := by decide +kernel
theorem d_Md_undo_25 : decode prog_14_method_6_code 25 = .ok (.getfield 15, 3) := by decide +kernel
theorem d_Md_undo_28 : decode prog_14_method_6_code 28 = .ok (.aload_n 0, 1) := by decide +kernel
theorem d_Md_undo_29 : decode prog_14_method_6_code 29 = .ok (.getfield 80, 3) := by decide +kernel
theorem d_Md_undo_32 : decode prog_14_method_6_code 32 = .ok (.iaload, 1) := by decide +kernel
theorem d_Md_undo_33 : decode prog_14_method_6_code 33 = .ok (.aload_n 0, 1) := by decide +kernel
theorem d_Md_undo_34 : decode prog_14_method_6_code 34 = .ok (.getfield 18, 3) := by decide +kernel
theorem d_Md_undo_37 : decode prog_14_method_6_code 37 = .ok (.aload_n 0, 1) := by decide +kernel
theorem d_Md_undo_38 : decode prog_14_method_6_code 38 = .ok (.getfield 80, 3) := by decide +kernel
theorem d_Md_undo_41 : decode prog_14_method_6_code 41 = .ok (.iaload, 1) := by decide +kernel
theorem d_Md_undo_42 : decode prog_14_method_6_code 42 = .ok (.iastore, 1) := by decide +kernel
theorem d_Md_undo_43 : decode prog_14_method_6_code 43 = .ok (.aload_n 0, 1) := by decide +kernel
theorem d_Md_undo_44 : decode prog_14_method_6_code 44 = .ok (.getfield 80, 3) := by decide +kernel
theorem d_Md_undo_47 : decode prog_14_method_6_code 47 = .ok (.ireturn, 1) := by decide +kernel
theorem d_Md_redo_0 : decode prog_14_method_7_code 0 = .ok (.aload_n 0, 1) := by decide +kernel
theorem d_Md_redo_1 : decode prog_14_method_7_code 1 = .ok (.getfield 80, 3) := by decide +kernel
theorem d_Md_redo_4 : decode prog_14_method_7_code 4 = .ok (.aload_n 0, 1) := by decide +kernel
theorem d_Md_redo_5 : decode prog_14_method_7_code 5 = .ok (.getfield 83, 3) := by decide +kernel
theorem d_Md_redo_8 : decode prog_14_method_7_code 8 = .ok (.if_icmp .ne 6, 3) := by decide +kernel
theorem d_Md_redo_11 : decode prog_14_method_7_code 11 = .ok (.bipush (-5), 2) := by decide +kernel
theorem d_Md_redo_13 : decode prog_14_method_7_code 13 = .ok (.ireturn, 1) := by decide +kernel
theorem d_Md_redo_14 : decode prog_14_method_7_code 14 = .ok (.aload_n 0, 1) := by decide +kernel
theorem d_Md_redo_15 : decode prog_14_method_7_code 15 = .ok (.getfield 11, 3) := by decide +kernel
theorem d_Md_redo_18 : decode prog_14_method_7_code 18 = .ok (.aload_n 0, 1) := by decide +kernel
theorem d_Md_redo_19 : decode prog_14_method_7_code 19 = .ok (.getfield 15, 3) := by decide +kernel
theorem d_Md_redo_22 : decode prog_14_method_7_code 22 = .ok (.aload_n 0, 1) := by decide +kernel
theorem d_Md_redo_23 : decode prog_14_method_7_code 23 = .ok (.getfield 80, 3) := by decide +kernel
theorem d_Md_redo_26 : decode prog_14_method_7_code 26 = .ok (.iaload, 1) := by decide +kernel
theorem d_Md_redo_27 : decode prog_14_method_7_code 27 = .ok (.aload_n 0, 1) := by decide +kernel
theorem d_Md_redo_28 : decode prog_14_method_7_code 28 = .ok (.getfield 21, 3) := by decide +kernel
theorem d_Md_redo_31 : decode prog_14_method_7_code 31 = .ok (.aload_n 0, 1) := by decide +kernel
theorem d_Md_redo_32 : decode prog_14_method_7_code 32 = .ok (.getfield 80, 3) := by decide +kernel
theorem d_Md_redo_35 : decode prog_14_method_7_code 35 = .ok (.iaload, 1) := by decide +kernel
theorem d_Md_redo_36 : decode prog_14_method_7_code 36 = .ok (.iastore, 1) := by decide +kernel
theorem d_Md_redo_37 : decode prog_14_method_7_code 37 = .ok (.aload_n 0, 1) := by decide +kernel
theorem d_Md_redo_38 : decode prog_14_method_7_code 38 = .ok (.dup, 1) := by decide +kernel
theorem d_Md_redo_39 : decode prog_14_method_7_code 39 = .ok (.getfield 80, 3) := by decide +kernel
theorem d_Md_redo_42 : decode prog_14_method_7_code 42 = .ok (.iconst 1, 1) := by decide +kernel
theorem d_Md_redo_43 : decode prog_14_method_7_code 43 = .ok (.iadd, 1) := by decide +kernel
theorem d_Md_redo_44 : decode prog_14_method_7_code 44 = .ok (.putfield 80, 3) := by decide +kernel
theorem d_Md_redo_47 : decode prog_14_method_7_code 47 = .ok (.aload_n 0, 1) := by decide +kernel
theorem d_Md_redo_48 : decode prog_14_method_7_code 48 = .ok (.getfield 83, 3) := by decide +kernel
theorem d_Md_redo_51 : decode prog_14_method_7_code 51 = .ok (.aload_n 0, 1) := by decide +kernel
theorem d_Md_redo_52 : decode prog_14_method_7_code 52 = .ok (.getfield 80, 3) := by decide +kernel
theorem d_Md_redo_55 : decode prog_14_method_7_code 55 = .ok (.isub, 1) := by decide +kernel
theorem d_Md_redo_56 : decode prog_14_method_7_code 56 = .ok (.ireturn, 1) := by decide +kernel
theorem d_Md_isOne_0 : decode prog_14_method_8_code 0 = .ok (.lload_n 1, 1) := by decide +kernel
theorem d_Md_isOne_1 : decode prog_14_method_8_code 1 = .ok (.lconst 0, 1) := by decide +kernel
theorem d_Md_isOne_2 : decode prog_14_method_8_code 2 = .ok (.aload_n 0, 1) := by decide +kernel
theorem d_Md_isOne_3 : decode prog_14_method_8_code 3 = .ok (.getfield 86, 3) := by decide +kernel
theorem d_Md_isOne_6 : decode prog_14_method_8_code 6 = .ok (.iconst 1, 1) := by decide +kernel
theorem d_Md_isOne_7 : decode prog_14_method_8_code 7 = .ok (.isub, 1) := by decide +kernel
theorem d_Md_isOne_8 : decode prog_14_method_8_code 8 = .ok (.i2l, 1) := by decide +kernel
theorem d_Md_isOne_9 : decode prog_14_method_8_code 9 = .ok (.invokestatic 89, 3) := by decide +kernel
theorem d_Md_isOne_12 : decode prog_14_method_8_code 12 = .ok (.ireturn, 1) := by decide +kernel
theorem d_Md_mayCome_0 : decode prog_14_method_9_code 0 = .ok (.lload_n 0, 1) := by decide +kernel
theorem d_Md_mayCome_1 : decode prog_14_method_9_code 1 = .ok (.ldc2_w 93, 3) := by decide +kernel
theorem d_Md_mayCome_4 : decode prog_14_method_9_code 4 = .ok (.ldc2_w 95, 3) := by decide +kernel
theorem d_Md_mayCome_7 : decode prog_14_method_9_code 7 = .ok (.invokestatic 89, 3) := by decide +kernel
theorem d_Md_mayCome_10 : decode prog_14_method_9_code 10 = .ok (.ifCond .eq 30, 3) := by decide +kernel
theorem d_Md_mayCome_13 : decode prog_14_method_9_code 13 = .ok (.lload_n 2, 1) := by decide +kernel
theorem d_Md_mayCome_14 : decode prog_14_method_9_code 14 = .ok (.lconst 0, 1) := by decide +kernel
theorem d_Md_mayCome_15 : decode prog_14_method_9_code 15 = .ok (.ldc2_w 97, 3) := by decide +kernel
theorem d_Md_mayCome_18 : decode prog_14_method_9_code 18 = .ok (.invokestatic 89, 3) := by decide +kernel
theorem d_Md_mayCome_21 : decode prog_14_method_9_code 21 = .ok (.ifCond .eq 19, 3) := by decide +kernel
theorem d_Md_mayCome_24 : decode prog_14_method_9_code 24 = .ok (.lload 4, 2) := by decide +kernel
theorem d_Md_mayCome_26 : decode prog_14_method_9_code 26 = .ok (.lconst 1, 1) := by decide +kernel
theorem d_Md_mayCome_27 : decode prog_14_method_9_code 27 = .ok (.ldc2_w 97, 3) := by decide +kernel
theorem d_Md_mayCome_30 : decode prog_14_method_9_code 30 = .ok (.invokestatic 89, 3) := by decide +kernel
theorem d_Md_mayCome_33 : decode prog_14_method_9_code 33 = .ok (.ifCond .eq 7, 3) := by decide +kernel
theorem d_Md_mayCome_36 : decode prog_14_method_9_code 36 = .ok (.iconst 1, 1) := by decide +kernel
theorem d_Md_mayCome_37 : decode prog_14_method_9_code 37 = .ok (.goto 4, 3) := by decide +kernel
theorem d_Md_mayCome_40 : decode prog_14_method_9_code 40 = .ok (.iconst 0, 1) := by decide +kernel
theorem d_Md_mayCome_41 : decode prog_14_method_9_code 41 = .ok (.ireturn, 1) := by decide +kernel
theorem d_Md_puts_0 : decode prog_14_method_10_code 0 = .ok (.aload_n 0, 1) := by decide +kernel
theorem d_Md_puts_1 : decode prog_14_method_10_code 1 = .ok (.getfield 11, 3) := by decide +kernel
theorem d_Md_puts_4 : decode prog_14_method_10_code 4 = .ok (.iconst 5, 1) := by decide +kernel
theorem d_Md_puts_5 : decode prog_14_method_10_code 5 = .ok (.iload_n 1, 1) := by decide +kernel
theorem d_Md_puts_6 : decode prog_14_method_10_code 6 = .ok (.imul, 1) := by decide +kernel
theorem d_Md_puts_7 : decode prog_14_method_10_code 7 = .ok (.iconst 0, 1) := by decide +kernel
theorem d_Md_puts_8 : decode prog_14_method_10_code 8 = .ok (.iadd, 1) := by decide +kernel
theorem d_Md_puts_9 : decode prog_14_method_10_code 9 = .ok (.iload_n 2, 1) := by decide +kernel
theorem d_Md_puts_10 : decode prog_14_method_10_code 10 = .ok (.iastore, 1) := by decide +kernel
theorem d_Md_puts_11 : decode prog_14_method_10_code 11 = .ok (.aload_n 0, 1) := by decide +kernel
theorem d_Md_puts_12 : decode prog_14_method_10_code 12 = .ok (.getfield 11, 3) := by decide +kernel
theorem d_Md_puts_15 : decode prog_14_method_10_code 15 = .ok (.iconst 5, 1) := by decide +kernel
theorem d_Md_puts_16 : decode prog_14_method_10_code 16 = .ok (.iload_n 1, 1) := by decide +kernel
theorem d_Md_puts_17 : decode prog_14_method_10_code 17 = .ok (.imul, 1) := by decide +kernel
theorem d_Md_puts_18 : decode prog_14_method_10_code 18 = .ok (.iconst 1, 1) := by decide +kernel
theorem d_Md_puts_19 : decode prog_14_method_10_code 19 = .ok (.iadd, 1) := by decide +kernel
theorem d_Md_puts_20 : decode prog_14_method_10_code 20 = .ok (.iload_n 3, 1) := by decide +kernel
theorem d_Md_puts_21 : decode prog_14_method_10_code 21 = .ok (.iastore, 1) := by decide +kernel
theorem d_Md_puts_22 : decode prog_14_method_10_code 22 = .ok (.aload_n 0, 1) := by decide +kernel
theorem d_Md_puts_23 : decode prog_14_method_10_code 23 = .ok (.getfield 11, 3) := by decide +kernel
theorem d_Md_puts_26 : decode prog_14_method_10_code 26 = .ok (.iconst 5, 1) := by decide +kernel
theorem d_Md_puts_27 : decode prog_14_method_10_code 27 = .ok (.iload_n 1, 1) := by decide +kernel
theorem d_Md_puts_28 : decode prog_14_method_10_code 28 = .ok (.imul, 1) := by decide +kernel
theorem d_Md_puts_29 : decode prog_14_method_10_code 29 = .ok (.iconst 2, 1) := by decide +kernel
theorem d_Md_puts_30 : decode prog_14_method_10_code 30 = .ok (.iadd, 1) := by decide +kernel
theorem d_Md_puts_31 : decode prog_14_method_10_code 31 = .ok (.iload 4, 2) := by decide +kernel
theorem d_Md_puts_33 : decode prog_14_method_10_code 33 = .ok (.iastore, 1) := by decide +kernel
theorem d_Md_puts_34 : decode prog_14_method_10_code 34 = .ok (.aload_n 0, 1) := by decide +kernel
theorem d_Md_puts_35 : decode prog_14_method_10_code 35 = .ok (.getfield 11, 3) := by decide +kernel
theorem d_Md_puts_38 : decode prog_14_method_10_code 38 = .ok (.iconst 5, 1) := by decide +kernel
theorem d_Md_puts_39 : decode prog_14_method_10_code 39 = .ok (.iload_n 1, 1) := by decide +kernel
theorem d_Md_puts_40 : decode prog_14_method_10_code 40 = .ok (.imul, 1) := by decide +kernel
theorem d_Md_puts_41 : decode prog_14_method_10_code 41 = .ok (.iconst 3, 1) := by decide +kernel
theorem d_Md_puts_42 : decode prog_14_method_10_code 42 = .ok (.iadd, 1) := by decide +kernel
theorem d_Md_puts_43 : decode prog_14_method_10_code 43 = .ok (.iconst 0, 1) := by decide +kernel
theorem d_Md_puts_44 : decode prog_14_method_10_code 44 = .ok (.iastore, 1) := by decide +kernel
theorem d_Md_puts_45 : decode prog_14_method_10_code 45 = .ok (.aload_n 0, 1) := by decide +kernel
theorem d_Md_puts_46 : decode prog_14_method_10_code 46 = .ok (.getfield 11, 3) := by decide +kernel
theorem d_Md_puts_49 : decode prog_14_method_10_code 49 = .ok (.iconst 5, 1) := by decide +kernel
theorem d_Md_puts_50 : decode prog_14_method_10_code 50 = .ok (.iload_n 1, 1) := by decide +kernel
theorem d_Md_puts_51 : decode prog_14_method_10_code 51 = .ok (.imul, 1) := by decide +kernel
theorem d_Md_puts_52 : decode prog_14_method_10_code 52 = .ok (.iconst 4, 1) := by decide +kernel
theorem d_Md_puts_53 : decode prog_14_method_10_code 53 = .ok (.iadd, 1) := by decide +kernel
theorem d_Md_puts_54 : decode prog_14_method_10_code 54 = .ok (.iconst 5, 1) := by decide +kernel
theorem d_Md_puts_55 : decode prog_14_method_10_code 55 = .ok (.iastore, 1) := by decide +kernel
theorem d_Md_puts_56 : decode prog_14_method_10_code 56 = .ok (.return_, 1) := by decide +kernel
theorem d_Md_person_0 : decode prog_14_method_11_code 0 = .ok (.iload_n 1, 1) := by decide +kernel
theorem d_Md_person_1 : decode prog_14_method_11_code 1 = .ok (.i2l, 1) := by decide +kernel
theorem d_Md_person_2 : decode prog_14_method_11_code 2 = .ok (.iload_n 2, 1) := by decide +kernel
theorem d_Md_person_3 : decode prog_14_method_11_code 3 = .ok (.i2l, 1) := by decide +kernel
theorem d_Md_person_4 : decode prog_14_method_11_code 4 = .ok (.ldc2_w 97, 3) := by decide +kernel
theorem d_Md_person_7 : decode prog_14_method_11_code 7 = .ok (.invokestatic 99, 3) := by decide +kernel
theorem d_Md_person_10 : decode prog_14_method_11_code 10 = .ok (.ifCond .ne 5, 3) := by decide +kernel
theorem d_Md_person_13 : decode prog_14_method_11_code 13 = .ok (.iconst (-1), 1) := by decide +kernel
theorem d_Md_person_14 : decode prog_14_method_11_code 14 = .ok (.ireturn, 1) := by decide +kernel
theorem d_Md_person_15 : decode prog_14_method_11_code 15 = .ok (.aload_n 0, 1) := by decide +kernel
theorem d_Md_person_16 : decode prog_14_method_11_code 16 = .ok (.getfield 86, 3) := by decide +kernel
theorem d_Md_person_19 : decode prog_14_method_11_code 19 = .ok (.bipush 12, 2) := by decide +kernel
theorem d_Md_person_21 : decode prog_14_method_11_code 21 = .ok (.if_icmp .ne 6, 3) := by decide +kernel
theorem d_Md_person_24 : decode prog_14_method_11_code 24 = .ok (.bipush (-3), 2) := by decide +kernel
theorem d_Md_person_26 : decode prog_14_method_11_code 26 = .ok (.ireturn, 1) := by decide +kernel
theorem d_Md_person_27 : decode prog_14_method_11_code 27 = .ok (.aload_n 0, 1) := by decide +kernel
theorem d_Md_person_28 : decode prog_14_method_11_code 28 = .ok (.aload_n 0, 1) := by decide +kernel
theorem d_Md_person_29 : decode prog_14_method_11_code 29 = .ok (.getfield 86, 3) := by decide +kernel
theorem d_Md_person_32 : decode prog_14_method_11_code 32 = .ok (.iload_n 1, 1) := by decide +kernel
theorem d_Md_person_33 : decode prog_14_method_11_code 33 = .ok (.iload_n 2, 1) := by decide +kernel
theorem d_Md_person_34 : decode prog_14_method_11_code 34 = .ok (.bipush 99, 2) := by decide +kernel
theorem d_Md_person_36 : decode prog_14_method_11_code 36 = .ok (.invokevirtual 102, 3) := by decide +kernel
theorem d_Md_person_39 : decode prog_14_method_11_code 39 = .ok (.aload_n 0, 1) := by decide +kernel
theorem d_Md_person_40 : decode prog_14_method_11_code 40 = .ok (.dup, 1) := by decide +kernel
theorem d_Md_person_41 : decode prog_14_method_11_code 41 = .ok (.getfield 86, 3) := by decide +kernel
theorem d_Md_person_44 : decode prog_14_method_11_code 44 = .ok (.iconst 1, 1) := by decide +kernel
theorem d_Md_person_45 : decode prog_14_method_11_code 45 = .ok (.iadd, 1) := by decide +kernel
theorem d_Md_person_46 : decode prog_14_method_11_code 46 = .ok (.putfield 86, 3) := by decide +kernel
theorem d_Md_person_49 : decode prog_14_method_11_code 49 = .ok (.aload_n 0, 1) := by decide +kernel
theorem d_Md_person_50 : decode prog_14_method_11_code 50 = .ok (.getfield 86, 3) := by decide +kernel
theorem d_Md_person_53 : decode prog_14_method_11_code 53 = .ok (.iconst 1, 1) := by decide +kernel
theorem d_Md_person_54 : decode prog_14_method_11_code 54 = .ok (.isub, 1) := by decide +kernel
theorem d_Md_person_55 : decode prog_14_method_11_code 55 = .ok (.ireturn, 1) := by decide +kernel
theorem d_Md_people_0 : decode prog_14_method_12_code 0 = .ok (.iload_n 1, 1) := by decide +kernel
theorem d_Md_people_1 : decode prog_14_method_12_code 1 = .ok (.invokestatic 106, 3) := by decide +kernel
theorem d_Md_people_4 : decode prog_14_method_12_code 4 = .ok (.ifCond .eq 15, 3) := by decide +kernel
theorem d_Md_people_7 : decode prog_14_method_12_code 7 = .ok (.iload_n 3, 1) := by decide +kernel
theorem d_Md_people_8 : decode prog_14_method_12_code 8 = .ok (.i2l, 1) := by decide +kernel
theorem d_Md_people_9 : decode prog_14_method_12_code 9 = .ok (.lconst 1, 1) := by decide +kernel
theorem d_Md_people_10 : decode prog_14_method_12_code 10 = .ok (.ldc2_w 110, 3) := by decide +kernel
theorem d_Md_people_13 : decode prog_14_method_12_code 13 = .ok (.invokestatic 89, 3) := by decide +kernel
theorem d_Md_people_16 : decode prog_14_method_12_code 16 = .ok (.ifCond .ne 5, 3) := by decide +kernel
theorem d_Md_people_19 : decode prog_14_method_12_code 19 = .ok (.iconst (-1), 1) := by decide +kernel
theorem d_Md_people_20 : decode prog_14_method_12_code 20 = .ok (.ireturn, 1) := by decide +kernel
theorem d_Md_people_21 : decode prog_14_method_12_code 21 = .ok (.aload_n 0, 1) := by decide +kernel
theorem d_Md_people_22 : decode prog_14_method_12_code 22 = .ok (.getfield 64, 3) := by decide +kernel
theorem d_Md_people_25 : decode prog_14_method_12_code 25 = .ok (.iload_n 1, 1) := by decide +kernel
theorem d_Md_people_26 : decode prog_14_method_12_code 26 = .ok (.iaload, 1) := by decide +kernel
theorem d_Md_people_27 : decode prog_14_method_12_code 27 = .ok (.ifCond .lt 17, 3) := by decide +kernel
theorem d_Md_people_30 : decode prog_14_method_12_code 30 = .ok (.aload_n 0, 1) := by decide +kernel
theorem d_Md_people_31 : decode prog_14_method_12_code 31 = .ok (.getfield 64, 3) := by decide +kernel
theorem d_Md_people_34 : decode prog_14_method_12_code 34 = .ok (.iload_n 1, 1) := by decide +kernel
theorem d_Md_people_35 : decode prog_14_method_12_code 35 = .ok (.iaload, 1) := by decide +kernel
theorem d_Md_people_36 : decode prog_14_method_12_code 36 = .ok (.bipush 51, 2) := by decide +kernel
theorem d_Md_people_38 : decode prog_14_method_12_code 38 = .ok (.if_icmp .eq 6, 3) := by decide +kernel
theorem d_Md_people_41 : decode prog_14_method_12_code 41 = .ok (.bipush (-12), 2) := by decide +kernel
theorem d_Md_people_43 : decode prog_14_method_12_code 43 = .ok (.ireturn, 1) := by decide +kernel
theorem d_Md_people_44 : decode prog_14_method_12_code 44 = .ok (.iconst 0, 1) := by decide +kernel
theorem d_Md_people_45 : decode prog_14_method_12_code 45 = .ok (.istore 4, 2) := by decide +kernel
theorem d_Md_people_47 : decode prog_14_method_12_code 47 = .ok (.aload_n 0, 1) := by decide +kernel
theorem d_Md_people_48 : decode prog_14_method_12_code 48 = .ok (.getfield 64, 3) := by decide +kernel
theorem d_Md_people_51 : decode prog_14_method_12_code 51 = .ok (.iload_n 1, 1) := by decide +kernel
theorem d_Md_people_52 : decode prog_14_method_12_code 52 = .ok (.iaload, 1) := by decide +kernel
theorem d_Md_people_53 : decode prog_14_method_12_code 53 = .ok (.bipush 51, 2) := by decide +kernel
theorem d_Md_people_55 : decode prog_14_method_12_code 55 = .ok (.if_icmp .ne 11, 3) := by decide +kernel
theorem d_Md_people_58 : decode prog_14_method_12_code 58 = .ok (.iload_n 2, 1) := by decide +kernel
theorem d_Md_people_59 : decode prog_14_method_12_code 59 = .ok (.ifCond .lt 7, 3) := by decide +kernel
theorem d_Md_people_62 : decode prog_14_method_12_code 62 = .ok (.iconst 1, 1) := by decide +kernel
theorem d_Md_people_63 : decode prog_14_method_12_code 63 = .ok (.goto 4, 3) := by decide +kernel
theorem d_Md_people_66 : decode prog_14_method_12_code 66 = .ok (.iconst 0, 1) := by decide +kernel
theorem d_Md_people_67 : decode prog_14_method_12_code 67 = .ok (.istore 5, 2) := by decide +kernel
theorem d_Md_people_69 : decode prog_14_method_12_code 69 = .ok (.iload 5, 2) := by decide +kernel
theorem d_Md_people_71 : decode prog_14_method_12_code 71 = .ok (.ifCond .eq 155, 3) := by decide +kernel
theorem d_Md_people_74 : decode prog_14_method_12_code 74 = .ok (.iload 4, 2) := by decide +kernel
theorem d_Md_people_76 : decode prog_14_method_12_code 76 = .ok (.iload_n 3, 1) := by decide +kernel
theorem d_Md_people_77 : decode prog_14_method_12_code 77 = .ok (.if_icmp .ge 149, 3) := by decide +kernel
theorem d_Md_people_80 : decode prog_14_method_12_code 80 = .ok (.iload_n 2, 1) := by decide +kernel
theorem d_Md_people_81 : decode prog_14_method_12_code 81 = .ok (.aload_n 0, 1) := by decide +kernel
theorem d_Md_people_82 : decode prog_14_method_12_code 82 = .ok (.getfield 67, 3) := by decide +kernel
theorem d_Md_people_85 : decode prog_14_method_12_code 85 = .ok (.iload_n 1, 1) := by decide +kernel
theorem d_Md_people_86 : decode prog_14_method_12_code 86 = .ok (.iaload, 1) := by decide +kernel
theorem d_Md_people_87 : decode prog_14_method_12_code 87 = .ok (.iconst 3, 1) := by decide +kernel
theorem d_Md_people_88 : decode prog_14_method_12_code 88 = .ok (.isub, 1) := by decide +kernel
theorem d_Md_people_89 : decode prog_14_method_12_code 89 = .ok (.iconst 3, 1) := by decide +kernel
theorem d_Md_people_90 : decode prog_14_method_12_code 90 = .ok (.iload 4, 2) := by decide +kernel
theorem d_Md_people_92 : decode prog_14_method_12_code 92 = .ok (.imul, 1) := by decide +kernel
theorem d_Md_people_93 : decode prog_14_method_12_code 93 = .ok (.isub, 1) := by decide +kernel
theorem d_Md_people_94 : decode prog_14_method_12_code 94 = .ok (.if_icmp .gt 16, 3) := by decide +kernel
theorem d_Md_people_97 : decode prog_14_method_12_code 97 = .ok (.aload_n 0, 1) := by decide +kernel
theorem d_Md_people_98 : decode prog_14_method_12_code 98 = .ok (.getfield 86, 3) := by decide +kernel
theorem d_Md_people_101 : decode prog_14_method_12_code 101 = .ok (.bipush 12, 2) := by decide +kernel
theorem d_Md_people_103 : decode prog_14_method_12_code 103 = .ok (.if_icmp .ge 7, 3) := by decide +kernel
theorem d_Md_people_106 : decode prog_14_method_12_code 106 = .ok (.iconst 1, 1) := by decide +kernel
theorem d_Md_people_107 : decode prog_14_method_12_code 107 = .ok (.goto 4, 3) := by decide +kernel
theorem d_Md_people_110 : decode prog_14_method_12_code 110 = .ok (.iconst 0, 1) := by decide +kernel
theorem d_Md_people_111 : decode prog_14_method_12_code 111 = .ok (.istore 5, 2) := by decide +kernel
theorem d_Md_people_113 : decode prog_14_method_12_code 113 = .ok (.bipush 60, 2) := by decide +kernel
theorem d_Md_people_115 : decode prog_14_method_12_code 115 = .ok (.iload_n 1, 1) := by decide +kernel
theorem d_Md_people_116 : decode prog_14_method_12_code 116 = .ok (.imul, 1) := by decide +kernel
theorem d_Md_people_117 : decode prog_14_method_12_code 117 = .ok (.iload_n 2, 1) := by decide +kernel
theorem d_Md_people_118 : decode prog_14_method_12_code 118 = .ok (.iadd, 1) := by decide +kernel
theorem d_Md_people_119 : decode prog_14_method_12_code 119 = .ok (.iconst 3, 1) := by decide +kernel
theorem d_Md_people_120 : decode prog_14_method_12_code 120 = .ok (.iload 4, 2) := by decide +kernel
theorem d_Md_people_122 : decode prog_14_method_12_code 122 = .ok (.imul, 1) := by decide +kernel
theorem d_Md_people_123 : decode prog_14_method_12_code 123 = .ok (.iadd, 1) := by decide +kernel
theorem d_Md_people_124 : decode prog_14_method_12_code 124 = .ok (.istore 6, 2) := by decide +kernel
theorem d_Md_people_126 : decode prog_14_method_12_code 126 = .ok (.iload 5, 2) := by decide +kernel
theorem d_Md_people_128 : decode prog_14_method_12_code 128 = .ok (.ifCond .eq 38, 3) := by decide +kernel
theorem d_Md_people_131 : decode prog_14_method_12_code 131 = .ok (.aload_n 0, 1) := by decide +kernel
theorem d_Md_people_132 : decode prog_14_method_12_code 132 = .ok (.getfield 70, 3) := by decide +kernel
theorem d_Md_people_135 : decode prog_14_method_12_code 135 = .ok (.iload 6, 2) := by decide +kernel
theorem d_Md_people_137 : decode prog_14_method_12_code 137 = .ok (.laload, 1) := by decide +kernel
theorem d_Md_people_138 : decode prog_14_method_12_code 138 = .ok (.aload_n 0, 1) := by decide +kernel
theorem d_Md_people_139 : decode prog_14_method_12_code 139 = .ok (.getfield 70, 3) := by decide +kernel
theorem d_Md_people_142 : decode prog_14_method_12_code 142 = .ok (.iload 6, 2) := by decide +kernel
theorem d_Md_people_144 : decode prog_14_method_12_code 144 = .ok (.iconst 1, 1) := by decide +kernel
theorem d_Md_people_145 : decode prog_14_method_12_code 145 = .ok (.iadd, 1) := by decide +kernel
theorem d_Md_people_146 : decode prog_14_method_12_code 146 = .ok (.laload, 1) := by decide +kernel
theorem d_Md_people_147 : decode prog_14_method_12_code 147 = .ok (.aload_n 0, 1) := by decide +kernel
theorem d_Md_people_148 : decode prog_14_method_12_code 148 = .ok (.getfield 70, 3) := by decide +kernel
theorem d_Md_people_151 : decode prog_14_method_12_code 151 = .ok (.iload 6, 2) := by decide +kernel
theorem d_Md_people_153 : decode prog_14_method_12_code 153 = .ok (.iconst 2, 1) := by decide +kernel
theorem d_Md_people_154 : decode prog_14_method_12_code 154 = .ok (.iadd, 1) := by decide +kernel
theorem d_Md_people_155 : decode prog_14_method_12_code 155 = .ok (.laload, 1) := by decide +kernel
theorem d_Md_people_156 : decode prog_14_method_12_code 156 = .ok (.invokestatic 99, 3) := by decide +kernel
theorem d_Md_people_159 : decode prog_14_method_12_code 159 = .ok (.ifCond .eq 7, 3) := by decide +kernel
theorem d_Md_people_162 : decode prog_14_method_12_code 162 = .ok (.iconst 1, 1) := by decide +kernel
theorem d_Md_people_163 : decode prog_14_method_12_code 163 = .ok (.goto 4, 3) := by decide +kernel
theorem d_Md_people_166 : decode prog_14_method_12_code 166 = .ok (.iconst 0, 1) := by decide +kernel
theorem d_Md_people_167 : decode prog_14_method_12_code 167 = .ok (.istore 5, 2) := by decide +kernel
theorem d_Md_people_169 : decode prog_14_method_12_code 169 = .ok (.iload 5, 2) := by decide +kernel
theorem d_Md_people_171 : decode prog_14_method_12_code 171 = .ok (.ifCond .eq 52, 3) := by decide +kernel
theorem d_Md_people_174 : decode prog_14_method_12_code 174 = .ok (.aload_n 0, 1) := by decide +kernel
theorem d_Md_people_175 : decode prog_14_method_12_code 175 = .ok (.aload_n 0, 1) := by decide +kernel
theorem d_Md_people_176 : decode prog_14_method_12_code 176 = .ok (.getfield 86, 3) := by decide +kernel
theorem d_Md_people_179 : decode prog_14_method_12_code 179 = .ok (.aload_n 0, 1) := by decide +kernel
theorem d_Md_people_180 : decode prog_14_method_12_code 180 = .ok (.getfield 70, 3) := by decide +kernel
theorem d_Md_people_183 : decode prog_14_method_12_code 183 = .ok (.iload 6, 2) := by decide +kernel
theorem d_Md_people_185 : decode prog_14_method_12_code 185 = .ok (.laload, 1) := by decide +kernel
theorem d_Md_people_186 : decode prog_14_method_12_code 186 = .ok (.l2i, 1) := by decide +kernel
theorem d_Md_people_187 : decode prog_14_method_12_code 187 = .ok (.aload_n 0, 1) := by decide +kernel
theorem d_Md_people_188 : decode prog_14_method_12_code 188 = .ok (.getfield 70, 3) := by decide +kernel
theorem d_Md_people_191 : decode prog_14_method_12_code 191 = .ok (.iload 6, 2) := by decide +kernel
theorem d_Md_people_193 : decode prog_14_method_12_code 193 = .ok (.iconst 1, 1) := by decide +kernel
theorem d_Md_people_194 : decode prog_14_method_12_code 194 = .ok (.iadd, 1) := by decide +kernel
theorem d_Md_people_195 : decode prog_14_method_12_code 195 = .ok (.laload, 1) := by decide +kernel
theorem d_Md_people_196 : decode prog_14_method_12_code 196 = .ok (.l2i, 1) := by decide +kernel
theorem d_Md_people_197 : decode prog_14_method_12_code 197 = .ok (.aload_n 0, 1) := by decide +kernel
theorem d_Md_people_198 : decode prog_14_method_12_code 198 = .ok (.getfield 70, 3) := by decide +kernel
theorem d_Md_people_201 : decode prog_14_method_12_code 201 = .ok (.iload 6, 2) := by decide +kernel
theorem d_Md_people_203 : decode prog_14_method_12_code 203 = .ok (.iconst 2, 1) := by decide +kernel
theorem d_Md_people_204 : decode prog_14_method_12_code 204 = .ok (.iadd, 1) := by decide +kernel
theorem d_Md_people_205 : decode prog_14_method_12_code 205 = .ok (.laload, 1) := by decide +kernel
theorem d_Md_people_206 : decode prog_14_method_12_code 206 = .ok (.l2i, 1) := by decide +kernel
theorem d_Md_people_207 : decode prog_14_method_12_code 207 = .ok (.invokevirtual 102, 3) := by decide +kernel
theorem d_Md_people_210 : decode prog_14_method_12_code 210 = .ok (.aload_n 0, 1) := by decide +kernel
theorem d_Md_people_211 : decode prog_14_method_12_code 211 = .ok (.dup, 1) := by decide +kernel
theorem d_Md_people_212 : decode prog_14_method_12_code 212 = .ok (.getfield 86, 3) := by decide +kernel
theorem d_Md_people_215 : decode prog_14_method_12_code 215 = .ok (.iconst 1, 1) := by decide +kernel
theorem d_Md_people_216 : decode prog_14_method_12_code 216 = .ok (.iadd, 1) := by decide +kernel
theorem d_Md_people_217 : decode prog_14_method_12_code 217 = .ok (.putfield 86, 3) := by decide +kernel
theorem d_Md_people_220 : decode prog_14_method_12_code 220 = .ok (.iinc 4 1, 3) := by decide +kernel
theorem d_Md_people_223 : decode prog_14_method_12_code 223 = .ok (.goto (-154), 3) := by decide +kernel
theorem d_Md_people_226 : decode prog_14_method_12_code 226 = .ok (.iload 4, 2) := by decide +kernel
theorem d_Md_people_228 : decode prog_14_method_12_code 228 = .ok (.ireturn, 1) := by decide +kernel
theorem d_Md_mayBecome_0 : decode prog_14_method_13_code 0 = .ok (.iload_n 0, 1) := by decide +kernel
theorem d_Md_mayBecome_1 : decode prog_14_method_13_code 1 = .ok (.tableswitch 63 0 3 #[31, 63, 43, 53], 31) := by decide +kernel
theorem d_Md_mayBecome_32 : decode prog_14_method_13_code 32 = .ok (.iload_n 1, 1) := by decide +kernel
theorem d_Md_mayBecome_33 : decode prog_14_method_13_code 33 = .ok (.i2l, 1) := by decide +kernel
theorem d_Md_mayBecome_34 : decode prog_14_method_13_code 34 = .ok (.ldc2_w 93, 3) := by decide +kernel
theorem d_Md_mayBecome_37 : decode prog_14_method_13_code 37 = .ok (.ldc2_w 95, 3) := by decide +kernel
theorem d_Md_mayBecome_40 : decode prog_14_method_13_code 40 = .ok (.invokestatic 89, 3) := by decide +kernel
theorem d_Md_mayBecome_43 : decode prog_14_method_13_code 43 = .ok (.ireturn, 1) := by decide +kernel
theorem d_Md_mayBecome_44 : decode prog_14_method_13_code 44 = .ok (.iload_n 1, 1) := by decide +kernel
theorem d_Md_mayBecome_45 : decode prog_14_method_13_code 45 = .ok (.i2l, 1) := by decide +kernel
theorem d_Md_mayBecome_46 : decode prog_14_method_13_code 46 = .ok (.lconst 1, 1) := by decide +kernel
theorem d_Md_mayBecome_47 : decode prog_14_method_13_code 47 = .ok (.ldc2_w 97, 3) := by decide +kernel
theorem d_Md_mayBecome_50 : decode prog_14_method_13_code 50 = .ok (.invokestatic 89, 3) := by decide +kernel
theorem d_Md_mayBecome_53 : decode prog_14_method_13_code 53 = .ok (.ireturn, 1) := by decide +kernel
theorem d_Md_mayBecome_54 : decode prog_14_method_13_code 54 = .ok (.iload_n 1, 1) := by decide +kernel
theorem d_Md_mayBecome_55 : decode prog_14_method_13_code 55 = .ok (.i2l, 1) := by decide +kernel
theorem d_Md_mayBecome_56 : decode prog_14_method_13_code 56 = .ok (.lconst 0, 1) := by decide +kernel
theorem d_Md_mayBecome_57 : decode prog_14_method_13_code 57 = .ok (.ldc2_w 112, 3) := by decide +kernel
theorem d_Md_mayBecome_60 : decode prog_14_method_13_code 60 = .ok (.invokestatic 89, 3) := by decide +kernel
theorem d_Md_mayBecome_63 : decode prog_14_method_13_code 63 = .ok (.ireturn, 1) := by decide +kernel
theorem d_Md_mayBecome_64 : decode prog_14_method_13_code 64 = .ok (.iload_n 1, 1) := by decide +kernel
theorem d_Md_mayBecome_65 : decode prog_14_method_13_code 65 = .ok (.i2l, 1) := by decide +kernel
theorem d_Md_mayBecome_66 : decode prog_14_method_13_code 66 = .ok (.lconst 0, 1) := by decide +kernel
theorem d_Md_mayBecome_67 : decode prog_14_method_13_code 67 = .ok (.ldc2_w 97, 3) := by decide +kernel
theorem d_Md_mayBecome_70 : decode prog_14_method_13_code 70 = .ok (.invokestatic 89, 3) := by decide +kernel
theorem d_Md_mayBecome_73 : decode prog_14_method_13_code 73 = .ok (.ireturn, 1) := by decide +kernel
theorem d_Md_mend_0 : decode prog_14_method_14_code 0 = .ok (.aload_n 0, 1) := by decide +kernel
theorem d_Md_mend_1 : decode prog_14_method_14_code 1 = .ok (.iload_n 1, 1) := by decide +kernel
theorem d_Md_mend_2 : decode prog_14_method_14_code 2 = .ok (.i2l, 1) := by decide +kernel
theorem d_Md_mend_3 : decode prog_14_method_14_code 3 = .ok (.invokevirtual 114, 3) := by decide +kernel
theorem d_Md_mend_6 : decode prog_14_method_14_code 6 = .ok (.ifCond .eq 36, 3) := by decide +kernel
theorem d_Md_mend_9 : decode prog_14_method_14_code 9 = .ok (.iload_n 2, 1) := by decide +kernel
theorem d_Md_mend_10 : decode prog_14_method_14_code 10 = .ok (.i2l, 1) := by decide +kernel
theorem d_Md_mend_11 : decode prog_14_method_14_code 11 = .ok (.lconst 0, 1) := by decide +kernel
theorem d_Md_mend_12 : decode prog_14_method_14_code 12 = .ok (.ldc2_w 118, 3) := by decide +kernel
theorem d_Md_mend_15 : decode prog_14_method_14_code 15 = .ok (.invokestatic 89, 3) := by decide +kernel
theorem d_Md_mend_18 : decode prog_14_method_14_code 18 = .ok (.ifCond .eq 24, 3) := by decide +kernel
theorem d_Md_mend_21 : decode prog_14_method_14_code 21 = .ok (.iload_n 2, 1) := by decide +kernel
theorem d_Md_mend_22 : decode prog_14_method_14_code 22 = .ok (.iload_n 3, 1) := by decide +kernel
theorem d_Md_mend_23 : decode prog_14_method_14_code 23 = .ok (.invokestatic 120, 3) := by decide +kernel
theorem d_Md_mend_26 : decode prog_14_method_14_code 26 = .ok (.ifCond .eq 16, 3) := by decide +kernel
theorem d_Md_mend_29 : decode prog_14_method_14_code 29 = .ok (.aload_n 0, 1) := by decide +kernel
theorem d_Md_mend_30 : decode prog_14_method_14_code 30 = .ok (.iconst 5, 1) := by decide +kernel
theorem d_Md_mend_31 : decode prog_14_method_14_code 31 = .ok (.iload_n 1, 1) := by decide +kernel
theorem d_Md_mend_32 : decode prog_14_method_14_code 32 = .ok (.imul, 1) := by decide +kernel
theorem d_Md_mend_33 : decode prog_14_method_14_code 33 = .ok (.iload_n 2, 1) := by decide +kernel
theorem d_Md_mend_34 : decode prog_14_method_14_code 34 = .ok (.iadd, 1) := by decide +kernel
theorem d_Md_mend_35 : decode prog_14_method_14_code 35 = .ok (.iload_n 3, 1) := by decide +kernel
theorem d_Md_mend_36 : decode prog_14_method_14_code 36 = .ok (.invokevirtual 124, 3) := by decide +kernel
theorem d_Md_mend_39 : decode prog_14_method_14_code 39 = .ok (.goto 4, 3) := by decide +kernel
theorem d_Md_mend_42 : decode prog_14_method_14_code 42 = .ok (.iconst (-1), 1) := by decide +kernel
theorem d_Md_mend_43 : decode prog_14_method_14_code 43 = .ok (.ireturn, 1) := by decide +kernel
theorem d_Md_waitsNow_0 : decode prog_14_method_15_code 0 = .ok (.aload_n 0, 1) := by decide +kernel
theorem d_Md_waitsNow_1 : decode prog_14_method_15_code 1 = .ok (.getfield 11, 3) := by decide +kernel
theorem d_Md_waitsNow_4 : decode prog_14_method_15_code 4 = .ok (.iconst 5, 1) := by decide +kernel
theorem d_Md_waitsNow_5 : decode prog_14_method_15_code 5 = .ok (.iload_n 1, 1) := by decide +kernel
theorem d_Md_waitsNow_6 : decode prog_14_method_15_code 6 = .ok (.imul, 1) := by decide +kernel
theorem d_Md_waitsNow_7 : decode prog_14_method_15_code 7 = .ok (.iconst 1, 1) := by decide +kernel
theorem d_Md_waitsNow_8 : decode prog_14_method_15_code 8 = .ok (.iadd, 1) := by decide +kernel
theorem d_Md_waitsNow_9 : decode prog_14_method_15_code 9 = .ok (.iaload, 1) := by decide +kernel
theorem d_Md_waitsNow_10 : decode prog_14_method_15_code 10 = .ok (.istore_n 2, 1) := by decide +kernel
theorem d_Md_waitsNow_11 : decode prog_14_method_15_code 11 = .ok (.aload_n 0, 1) := by decide +kernel
theorem d_Md_waitsNow_12 : decode prog_14_method_15_code 12 = .ok (.getfield 24, 3) := by decide +kernel
theorem d_Md_waitsNow_15 : decode prog_14_method_15_code 15 = .ok (.iload_n 1, 1) := by decide +kernel
theorem d_Md_waitsNow_16 : decode prog_14_method_15_code 16 = .ok (.iaload, 1) := by decide +kernel
theorem d_Md_waitsNow_17 : decode prog_14_method_15_code 17 = .ok (.ifCond .ge 46, 3) := by decide +kernel
theorem d_Md_waitsNow_20 : decode prog_14_method_15_code 20 = .ok (.aload_n 0, 1) := by decide +kernel
theorem d_Md_waitsNow_21 : decode prog_14_method_15_code 21 = .ok (.getfield 128, 3) := by decide +kernel
theorem d_Md_waitsNow_24 : decode prog_14_method_15_code 24 = .ok (.iload_n 1, 1) := by decide +kernel
theorem d_Md_waitsNow_25 : decode prog_14_method_15_code 25 = .ok (.invokestatic 131, 3) := by decide +kernel
theorem d_Md_waitsNow_28 : decode prog_14_method_15_code 28 = .ok (.ifCond .ne 35, 3) := by decide +kernel
theorem d_Md_waitsNow_31 : decode prog_14_method_15_code 31 = .ok (.aload_n 0, 1) := by decide +kernel
theorem d_Md_waitsNow_32 : decode prog_14_method_15_code 32 = .ok (.getfield 134, 3) := by decide +kernel
theorem d_Md_waitsNow_35 : decode prog_14_method_15_code 35 = .ok (.i2l, 1) := by decide +kernel
theorem d_Md_waitsNow_36 : decode prog_14_method_15_code 36 = .ok (.iload_n 2, 1) := by decide +kernel
theorem d_Md_waitsNow_37 : decode prog_14_method_15_code 37 = .ok (.i2l, 1) := by decide +kernel
theorem d_Md_waitsNow_38 : decode prog_14_method_15_code 38 = .ok (.iload_n 2, 1) := by decide +kernel
theorem d_Md_waitsNow_39 : decode prog_14_method_15_code 39 = .ok (.aload_n 0, 1) := by decide +kernel
theorem d_Md_waitsNow_40 : decode prog_14_method_15_code 40 = .ok (.getfield 11, 3) := by decide +kernel
theorem d_Md_waitsNow_43 : decode prog_14_method_15_code 43 = .ok (.iconst 5, 1) := by decide +kernel
theorem d_Md_waitsNow_44 : decode prog_14_method_15_code 44 = .ok (.iload_n 1, 1) := by decide +kernel
theorem d_Md_waitsNow_45 : decode prog_14_method_15_code 45 = .ok (.imul, 1) := by decide +kernel
theorem d_Md_waitsNow_46 : decode prog_14_method_15_code 46 = .ok (.iconst 2, 1) := by decide +kernel
theorem d_Md_waitsNow_47 : decode prog_14_method_15_code 47 = .ok (.iadd, 1) := by decide +kernel
theorem d_Md_waitsNow_48 : decode prog_14_method_15_code 48 = .ok (.iaload, 1) := by decide +kernel
theorem d_Md_waitsNow_49 : decode prog_14_method_15_code 49 = .ok (.iadd, 1) := by decide +kernel
theorem d_Md_waitsNow_50 : decode prog_14_method_15_code 50 = .ok (.iconst 1, 1) := by decide +kernel
theorem d_Md_waitsNow_51 : decode prog_14_method_15_code 51 = .ok (.isub, 1) := by decide +kernel
theorem d_Md_waitsNow_52 : decode prog_14_method_15_code 52 = .ok (.i2l, 1) := by decide +kernel
theorem d_Md_waitsNow_53 : decode prog_14_method_15_code 53 = .ok (.invokestatic 89, 3) := by decide +kernel
theorem d_Md_waitsNow_56 : decode prog_14_method_15_code 56 = .ok (.ifCond .eq 7, 3) := by decide +kernel
theorem d_Md_waitsNow_59 : decode prog_14_method_15_code 59 = .ok (.iconst 1, 1) := by decide +kernel
theorem d_Md_waitsNow_60 : decode prog_14_method_15_code 60 = .ok (.goto 4, 3) := by decide +kernel
theorem d_Md_waitsNow_63 : decode prog_14_method_15_code 63 = .ok (.iconst 0, 1) := by decide +kernel
theorem d_Md_waitsNow_64 : decode prog_14_method_15_code 64 = .ok (.ireturn, 1) := by decide +kernel
theorem d_Md_of_0 : decode prog_14_method_16_code 0 = .ok (.aload_n 0, 1) := by decide +kernel
theorem d_Md_of_1 : decode prog_14_method_16_code 1 = .ok (.iload_n 1, 1) := by decide +kernel
theorem d_Md_of_2 : decode prog_14_method_16_code 2 = .ok (.i2l, 1) := by decide +kernel
theorem d_Md_of_3 : decode prog_14_method_16_code 3 = .ok (.invokevirtual 114, 3) := by decide +kernel
theorem d_Md_of_6 : decode prog_14_method_16_code 6 = .ok (.ifCond .ne 5, 3) := by decide +kernel
theorem d_Md_of_9 : decode prog_14_method_16_code 9 = .ok (.iconst (-1), 1) := by decide +kernel
theorem d_Md_of_10 : decode prog_14_method_16_code 10 = .ok (.ireturn, 1) := by decide +kernel
theorem d_Md_of_11 : decode prog_14_method_16_code 11 = .ok (.iload_n 2, 1) := by decide +kernel
theorem d_Md_of_12 : decode prog_14_method_16_code 12 = .ok (.i2l, 1) := by decide +kernel
theorem d_Md_of_13 : decode prog_14_method_16_code 13 = .ok (.lconst 0, 1) := by decide +kernel
theorem d_Md_of_14 : decode prog_14_method_16_code 14 = .ok (.ldc2_w 118, 3) := by decide +kernel
theorem d_Md_of_17 : decode prog_14_method_16_code 17 = .ok (.invokestatic 89, 3) := by decide +kernel
theorem d_Md_of_20 : decode prog_14_method_16_code 20 = .ok (.ifCond .eq 14, 3) := by decide +kernel
theorem d_Md_of_23 : decode prog_14_method_16_code 23 = .ok (.aload_n 0, 1) := by decide +kernel
theorem d_Md_of_24 : decode prog_14_method_16_code 24 = .ok (.getfield 11, 3) := by decide +kernel
theorem d_Md_of_27 : decode prog_14_method_16_code 27 = .ok (.iconst 5, 1) := by decide +kernel
theorem d_Md_of_28 : decode prog_14_method_16_code 28 = .ok (.iload_n 1, 1) := by decide +kernel
theorem d_Md_of_29 : decode prog_14_method_16_code 29 = .ok (.imul, 1) := by decide +kernel
theorem d_Md_of_30 : decode prog_14_method_16_code 30 = .ok (.iload_n 2, 1) := by decide +kernel
theorem d_Md_of_31 : decode prog_14_method_16_code 31 = .ok (.iadd, 1) := by decide +kernel
theorem d_Md_of_32 : decode prog_14_method_16_code 32 = .ok (.iaload, 1) := by decide +kernel
theorem d_Md_of_33 : decode prog_14_method_16_code 33 = .ok (.ireturn, 1) := by decide +kernel
theorem d_Md_of_34 : decode prog_14_method_16_code 34 = .ok (.iload_n 2, 1) := by decide +kernel
theorem d_Md_of_35 : decode prog_14_method_16_code 35 = .ok (.bipush 10, 2) := by decide +kernel
theorem d_Md_of_37 : decode prog_14_method_16_code 37 = .ok (.if_icmp .ne 19, 3) := by decide +kernel
theorem d_Md_of_40 : decode prog_14_method_16_code 40 = .ok (.aload_n 0, 1) := by decide +kernel
theorem d_Md_of_41 : decode prog_14_method_16_code 41 = .ok (.iload_n 1, 1) := by decide +kernel
theorem d_Md_of_42 : decode prog_14_method_16_code 42 = .ok (.invokevirtual 137, 3) := by decide +kernel
theorem d_Md_of_45 : decode prog_14_method_16_code 45 = .ok (.ifCond .eq 7, 3) := by decide +kernel
theorem d_Md_of_48 : decode prog_14_method_16_code 48 = .ok (.iconst 1, 1) := by decide +kernel
theorem d_Md_of_49 : decode prog_14_method_16_code 49 = .ok (.goto 23, 3) := by decide +kernel
theorem d_Md_of_52 : decode prog_14_method_16_code 52 = .ok (.iconst 0, 1) := by decide +kernel
theorem d_Md_of_53 : decode prog_14_method_16_code 53 = .ok (.goto 19, 3) := by decide +kernel
theorem d_Md_of_56 : decode prog_14_method_16_code 56 = .ok (.iload_n 2, 1) := by decide +kernel
theorem d_Md_of_57 : decode prog_14_method_16_code 57 = .ok (.bipush 11, 2) := by decide +kernel
theorem d_Md_of_59 : decode prog_14_method_16_code 59 = .ok (.if_icmp .ne 12, 3) := by decide +kernel
theorem d_Md_of_62 : decode prog_14_method_16_code 62 = .ok (.aload_n 0, 1) := by decide +kernel
theorem d_Md_of_63 : decode prog_14_method_16_code 63 = .ok (.getfield 24, 3) := by decide +kernel
theorem d_Md_of_66 : decode prog_14_method_16_code 66 = .ok (.iload_n 1, 1) := by decide +kernel
theorem d_Md_of_67 : decode prog_14_method_16_code 67 = .ok (.iaload, 1) := by decide +kernel
theorem d_Md_of_68 : decode prog_14_method_16_code 68 = .ok (.goto 4, 3) := by decide +kernel
theorem d_Md_of_71 : decode prog_14_method_16_code 71 = .ok (.iconst (-1), 1) := by decide +kernel
theorem d_Md_of_72 : decode prog_14_method_16_code 72 = .ok (.ireturn, 1) := by decide +kernel
theorem d_Md_feed_0 : decode prog_14_method_17_code 0 = .ok (.iload_n 1, 1) := by decide +kernel
theorem d_Md_feed_1 : decode prog_14_method_17_code 1 = .ok (.i2l, 1) := by decide +kernel
theorem d_Md_feed_2 : decode prog_14_method_17_code 2 = .ok (.lconst 0, 1) := by decide +kernel
theorem d_Md_feed_3 : decode prog_14_method_17_code 3 = .ok (.ldc2_w 140, 3) := by decide +kernel
theorem d_Md_feed_6 : decode prog_14_method_17_code 6 = .ok (.invokestatic 89, 3) := by decide +kernel
theorem d_Md_feed_9 : decode prog_14_method_17_code 9 = .ok (.ifCond .ne 5, 3) := by decide +kernel
theorem d_Md_feed_12 : decode prog_14_method_17_code 12 = .ok (.iconst (-1), 1) := by decide +kernel
theorem d_Md_feed_13 : decode prog_14_method_17_code 13 = .ok (.ireturn, 1) := by decide +kernel
theorem d_Md_feed_14 : decode prog_14_method_17_code 14 = .ok (.aload_n 0, 1) := by decide +kernel
theorem d_Md_feed_15 : decode prog_14_method_17_code 15 = .ok (.getfield 142, 3) := by decide +kernel
theorem d_Md_feed_18 : decode prog_14_method_17_code 18 = .ok (.bipush 120, 2) := by decide +kernel
theorem d_Md_feed_20 : decode prog_14_method_17_code 20 = .ok (.if_icmp .ne 6, 3) := by decide +kernel
theorem d_Md_feed_23 : decode prog_14_method_17_code 23 = .ok (.bipush (-3), 2) := by decide +kernel
theorem d_Md_feed_25 : decode prog_14_method_17_code 25 = .ok (.ireturn, 1) := by decide +kernel
theorem d_Md_feed_26 : decode prog_14_method_17_code 26 = .ok (.aload_n 0, 1) := by decide +kernel
theorem d_Md_feed_27 : decode prog_14_method_17_code 27 = .ok (.getfield 27, 3) := by decide +kernel
theorem d_Md_feed_30 : decode prog_14_method_17_code 30 = .ok (.aload_n 0, 1) := by decide +kernel
theorem d_Md_feed_31 : decode prog_14_method_17_code 31 = .ok (.getfield 142, 3) := by decide +kernel
theorem d_Md_feed_34 : decode prog_14_method_17_code 34 = .ok (.iload_n 1, 1) := by decide +kernel
theorem d_Md_feed_35 : decode prog_14_method_17_code 35 = .ok (.iastore, 1) := by decide +kernel
theorem d_Md_feed_36 : decode prog_14_method_17_code 36 = .ok (.aload_n 0, 1) := by decide +kernel
theorem d_Md_feed_37 : decode prog_14_method_17_code 37 = .ok (.dup, 1) := by decide +kernel
theorem d_Md_feed_38 : decode prog_14_method_17_code 38 = .ok (.getfield 142, 3) := by decide +kernel
theorem d_Md_feed_41 : decode prog_14_method_17_code 41 = .ok (.iconst 1, 1) := by decide +kernel
theorem d_Md_feed_42 : decode prog_14_method_17_code 42 = .ok (.iadd, 1) := by decide +kernel
theorem d_Md_feed_43 : decode prog_14_method_17_code 43 = .ok (.putfield 142, 3) := by decide +kernel
theorem d_Md_feed_46 : decode prog_14_method_17_code 46 = .ok (.aload_n 0, 1) := by decide +kernel
theorem d_Md_feed_47 : decode prog_14_method_17_code 47 = .ok (.getfield 142, 3) := by decide +kernel
theorem d_Md_feed_50 : decode prog_14_method_17_code 50 = .ok (.ireturn, 1) := by decide +kernel
theorem d_Md_byteAt_0 : decode prog_14_method_18_code 0 = .ok (.aload_n 0, 1) := by decide +kernel
theorem d_Md_byteAt_1 : decode prog_14_method_18_code 1 = .ok (.getfield 145, 3) := by decide +kernel
theorem d_Md_byteAt_4 : decode prog_14_method_18_code 4 = .ok (.aload_n 0, 1) := by decide +kernel
theorem d_Md_byteAt_5 : decode prog_14_method_18_code 5 = .ok (.getfield 148, 3) := by decide +kernel
theorem d_Md_byteAt_8 : decode prog_14_method_18_code 8 = .ok (.if_icmp .ge 39, 3) := by decide +kernel
theorem d_Md_byteAt_11 : decode prog_14_method_18_code 11 = .ok (.aload_n 0, 1) := by decide +kernel
theorem d_Md_byteAt_12 : decode prog_14_method_18_code 12 = .ok (.getfield 151, 3) := by decide +kernel
theorem d_Md_byteAt_15 : decode prog_14_method_18_code 15 = .ok (.ifCond .ge 15, 3) := by decide +kernel
theorem d_Md_byteAt_18 : decode prog_14_method_18_code 18 = .ok (.aload_n 0, 1) := by decide +kernel
theorem d_Md_byteAt_19 : decode prog_14_method_18_code 19 = .ok (.getfield 27, 3) := by decide +kernel
theorem d_Md_byteAt_22 : decode prog_14_method_18_code 22 = .ok (.aload_n 0, 1) := by decide +kernel
theorem d_Md_byteAt_23 : decode prog_14_method_18_code 23 = .ok (.getfield 145, 3) := by decide +kernel
theorem d_Md_byteAt_26 : decode prog_14_method_18_code 26 = .ok (.iaload, 1) := by decide +kernel
theorem d_Md_byteAt_27 : decode prog_14_method_18_code 27 = .ok (.goto 21, 3) := by decide +kernel
theorem d_Md_byteAt_30 : decode prog_14_method_18_code 30 = .ok (.aload_n 0, 1) := by decide +kernel
theorem d_Md_byteAt_31 : decode prog_14_method_18_code 31 = .ok (.getfield 30, 3) := by decide +kernel
theorem d_Md_byteAt_34 : decode prog_14_method_18_code 34 = .ok (.aload_n 0, 1) := by decide +kernel
theorem d_Md_byteAt_35 : decode prog_14_method_18_code 35 = .ok (.getfield 151, 3) := by decide +kernel
theorem d_Md_byteAt_38 : decode prog_14_method_18_code 38 = .ok (.aload_n 0, 1) := by decide +kernel
theorem d_Md_byteAt_39 : decode prog_14_method_18_code 39 = .ok (.getfield 145, 3) := by decide +kernel
theorem d_Md_byteAt_42 : decode prog_14_method_18_code 42 = .ok (.iadd, 1) := by decide +kernel
theorem d_Md_byteAt_43 : decode prog_14_method_18_code 43 = .ok (.iaload, 1) := by decide +kernel
theorem d_Md_byteAt_44 : decode prog_14_method_18_code 44 = .ok (.goto 4, 3) := by decide +kernel
theorem d_Md_byteAt_47 : decode prog_14_method_18_code 47 = .ok (.iconst 0, 1) := by decide +kernel
theorem d_Md_byteAt_48 : decode prog_14_method_18_code 48 = .ok (.ireturn, 1) := by decide +kernel
theorem d_Md_wrong_0 : decode prog_14_method_19_code 0 = .ok (.aload_n 0, 1) := by decide +kernel
theorem d_Md_wrong_1 : decode prog_14_method_19_code 1 = .ok (.aload_n 0, 1) := by decide +kernel
theorem d_Md_wrong_2 : decode prog_14_method_19_code 2 = .ok (.getfield 154, 3) := by decide +kernel
theorem d_Md_wrong_5 : decode prog_14_method_19_code 5 = .ok (.ifCond .ge 10, 3) := by decide +kernel
theorem d_Md_wrong_8 : decode prog_14_method_19_code 8 = .ok (.aload_n 0, 1) := by decide +kernel
theorem d_Md_wrong_9 : decode prog_14_method_19_code 9 = .ok (.getfield 145, 3) := by decide +kernel
theorem d_Md_wrong_12 : decode prog_14_method_19_code 12 = .ok (.goto 7, 3) := by decide +kernel
theorem d_Md_wrong_15 : decode prog_14_method_19_code 15 = .ok (.aload_n 0, 1) := by decide +kernel
theorem d_Md_wrong_16 : decode prog_14_method_19_code 16 = .ok (.getfield 154, 3) := by decide +kernel
theorem d_Md_wrong_19 : decode prog_14_method_19_code 19 = .ok (.putfield 154, 3) := by decide +kernel
theorem d_Md_wrong_22 : decode prog_14_method_19_code 22 = .ok (.iconst 0, 1) := by decide +kernel
theorem d_Md_wrong_23 : decode prog_14_method_19_code 23 = .ok (.ireturn, 1) := by decide +kernel
theorem d_Md_takes_0 : decode prog_14_method_20_code 0 = .ok (.aload_n 0, 1) := by decide +kernel
theorem d_Md_takes_1 : decode prog_14_method_20_code 1 = .ok (.getfield 154, 3) := by decide +kernel
theorem d_Md_takes_4 : decode prog_14_method_20_code 4 = .ok (.ifCond .ge 11, 3) := by decide +kernel
theorem d_Md_takes_7 : decode prog_14_method_20_code 7 = .ok (.aload_n 0, 1) := by decide +kernel
theorem d_Md_takes_8 : decode prog_14_method_20_code 8 = .ok (.invokevirtual 157, 3) := by decide +kernel
theorem d_Md_takes_11 : decode prog_14_method_20_code 11 = .ok (.iload_n 1, 1) := by decide +kernel
theorem d_Md_takes_12 : decode prog_14_method_20_code 12 = .ok (.if_icmp .eq 5, 3) := by decide +kernel
theorem d_Md_takes_15 : decode prog_14_method_20_code 15 = .ok (.iconst 0, 1) := by decide +kernel
theorem d_Md_takes_16 : decode prog_14_method_20_code 16 = .ok (.ireturn, 1) := by decide +kernel
theorem d_Md_takes_17 : decode prog_14_method_20_code 17 = .ok (.aload_n 0, 1) := by decide +kernel
theorem d_Md_takes_18 : decode prog_14_method_20_code 18 = .ok (.dup, 1) := by decide +kernel
theorem d_Md_takes_19 : decode prog_14_method_20_code 19 = .ok (.getfield 145, 3) := by decide +kernel
theorem d_Md_takes_22 : decode prog_14_method_20_code 22 = .ok (.iconst 1, 1) := by decide +kernel
theorem d_Md_takes_23 : decode prog_14_method_20_code 23 = .ok (.iadd, 1) := by decide +kernel
theorem d_Md_takes_24 : decode prog_14_method_20_code 24 = .ok (.putfield 145, 3) := by decide +kernel
theorem d_Md_takes_27 : decode prog_14_method_20_code 27 = .ok (.iconst 1, 1) := by decide +kernel
theorem d_Md_takes_28 : decode prog_14_method_20_code 28 = .ok (.ireturn, 1) := by decide +kernel
theorem d_Md_either_0 : decode prog_14_method_21_code 0 = .ok (.aload_n 0, 1) := by decide +kernel
theorem d_Md_either_1 : decode prog_14_method_21_code 1 = .ok (.invokevirtual 161, 3) := by decide +kernel
theorem d_Md_either_4 : decode prog_14_method_21_code 4 = .ok (.istore_n 1, 1) := by decide +kernel
theorem d_Md_either_5 : decode prog_14_method_21_code 5 = .ok (.aload_n 0, 1) := by decide +kernel
theorem d_Md_either_6 : decode prog_14_method_21_code 6 = .ok (.bipush 124, 2) := by decide +kernel
theorem d_Md_either_8 : decode prog_14_method_21_code 8 = .ok (.invokevirtual 164, 3) := by decide +kernel
theorem d_Md_either_11 : decode prog_14_method_21_code 11 = .ok (.ifCond .eq 25, 3) := by decide +kernel
theorem d_Md_either_14 : decode prog_14_method_21_code 14 = .ok (.aload_n 0, 1) := by decide +kernel
theorem d_Md_either_15 : decode prog_14_method_21_code 15 = .ok (.invokevirtual 161, 3) := by decide +kernel
theorem d_Md_either_18 : decode prog_14_method_21_code 18 = .ok (.istore_n 2, 1) := by decide +kernel
theorem d_Md_either_19 : decode prog_14_method_21_code 19 = .ok (.iload_n 1, 1) := by decide +kernel
theorem d_Md_either_20 : decode prog_14_method_21_code 20 = .ok (.ifCond .ne 7, 3) := by decide +kernel
theorem d_Md_either_23 : decode prog_14_method_21_code 23 = .ok (.iload_n 2, 1) := by decide +kernel
theorem d_Md_either_24 : decode prog_14_method_21_code 24 = .ok (.ifCond .eq 7, 3) := by decide +kernel
theorem d_Md_either_27 : decode prog_14_method_21_code 27 = .ok (.iconst 1, 1) := by decide +kernel
theorem d_Md_either_28 : decode prog_14_method_21_code 28 = .ok (.goto 4, 3) := by decide +kernel
theorem d_Md_either_31 : decode prog_14_method_21_code 31 = .ok (.iconst 0, 1) := by decide +kernel
theorem d_Md_either_32 : decode prog_14_method_21_code 32 = .ok (.istore_n 1, 1) := by decide +kernel
theorem d_Md_either_33 : decode prog_14_method_21_code 33 = .ok (.goto (-28), 3) := by decide +kernel
theorem d_Md_either_36 : decode prog_14_method_21_code 36 = .ok (.iload_n 1, 1) := by decide +kernel
theorem d_Md_either_37 : decode prog_14_method_21_code 37 = .ok (.ireturn, 1) := by decide +kernel
theorem d_Md_both_0 : decode prog_14_method_22_code 0 = .ok (.aload_n 0, 1) := by decide +kernel
theorem d_Md_both_1 : decode prog_14_method_22_code 1 = .ok (.invokevirtual 167, 3) := by decide +kernel
theorem d_Md_both_4 : decode prog_14_method_22_code 4 = .ok (.istore_n 1, 1) := by decide +kernel
theorem d_Md_both_5 : decode prog_14_method_22_code 5 = .ok (.aload_n 0, 1) := by decide +kernel
theorem d_Md_both_6 : decode prog_14_method_22_code 6 = .ok (.bipush 38, 2) := by decide +kernel
theorem d_Md_both_8 : decode prog_14_method_22_code 8 = .ok (.invokevirtual 164, 3) := by decide +kernel
theorem d_Md_both_11 : decode prog_14_method_22_code 11 = .ok (.ifCond .eq 25, 3) := by decide +kernel
theorem d_Md_both_14 : decode prog_14_method_22_code 14 = .ok (.aload_n 0, 1) := by decide +kernel
theorem d_Md_both_15 : decode prog_14_method_22_code 15 = .ok (.invokevirtual 167, 3) := by decide +kernel
theorem d_Md_both_18 : decode prog_14_method_22_code 18 = .ok (.istore_n 2, 1) := by decide +kernel
theorem d_Md_both_19 : decode prog_14_method_22_code 19 = .ok (.iload_n 1, 1) := by decide +kernel
theorem d_Md_both_20 : decode prog_14_method_22_code 20 = .ok (.ifCond .eq 11, 3) := by decide +kernel
theorem d_Md_both_23 : decode prog_14_method_22_code 23 = .ok (.iload_n 2, 1) := by decide +kernel
theorem d_Md_both_24 : decode prog_14_method_22_code 24 = .ok (.ifCond .eq 7, 3) := by decide +kernel
theorem d_Md_both_27 : decode prog_14_method_22_code 27 = .ok (.iconst 1, 1) := by decide +kernel
theorem d_Md_both_28 : decode prog_14_method_22_code 28 = .ok (.goto 4, 3) := by decide +kernel
theorem d_Md_both_31 : decode prog_14_method_22_code 31 = .ok (.iconst 0, 1) := by decide +kernel
theorem d_Md_both_32 : decode prog_14_method_22_code 32 = .ok (.istore_n 1, 1) := by decide +kernel
theorem d_Md_both_33 : decode prog_14_method_22_code 33 = .ok (.goto (-28), 3) := by decide +kernel
theorem d_Md_both_36 : decode prog_14_method_22_code 36 = .ok (.iload_n 1, 1) := by decide +kernel
theorem d_Md_both_37 : decode prog_14_method_22_code 37 = .ok (.ireturn, 1) := by decide +kernel
theorem d_Md_compared_0 : decode prog_14_method_23_code 0 = .ok (.aload_n 0, 1) := by decide +kernel
theorem d_Md_compared_1 : decode prog_14_method_23_code 1 = .ok (.invokevirtual 170, 3) := by decide +kernel
theorem d_Md_compared_4 : decode prog_14_method_23_code 4 = .ok (.istore_n 1, 1) := by decide +kernel
theorem d_Md_compared_5 : decode prog_14_method_23_code 5 = .ok (.aload_n 0, 1) := by decide +kernel
theorem d_Md_compared_6 : decode prog_14_method_23_code 6 = .ok (.invokevirtual 157, 3) := by decide +kernel
theorem d_Md_compared_9 : decode prog_14_method_23_code 9 = .ok (.istore_n 2, 1) := by decide +kernel
theorem d_Md_compared_10 : decode prog_14_method_23_code 10 = .ok (.aload_n 0, 1) := by decide +kernel
theorem d_Md_compared_11 : decode prog_14_method_23_code 11 = .ok (.getfield 154, 3) := by decide +kernel
theorem d_Md_compared_14 : decode prog_14_method_23_code 14 = .ok (.ifCond .ge 21, 3) := by decide +kernel
theorem d_Md_compared_17 : decode prog_14_method_23_code 17 = .ok (.iload_n 2, 1) := by decide +kernel
theorem d_Md_compared_18 : decode prog_14_method_23_code 18 = .ok (.bipush 60, 2) := by decide +kernel
theorem d_Md_compared_20 : decode prog_14_method_23_code 20 = .ok (.if_icmp .eq 17, 3) := by decide +kernel
theorem d_Md_compared_23 : decode prog_14_method_23_code 23 = .ok (.iload_n 2, 1) := by decide +kernel
theorem d_Md_compared_24 : decode prog_14_method_23_code 24 = .ok (.bipush 61, 2) := by decide +kernel
theorem d_Md_compared_26 : decode prog_14_method_23_code 26 = .ok (.if_icmp .eq 11, 3) := by decide +kernel
theorem d_Md_compared_29 : decode prog_14_method_23_code 29 = .ok (.iload_n 2, 1) := by decide +kernel
theorem d_Md_compared_30 : decode prog_14_method_23_code 30 = .ok (.bipush 62, 2) := by decide +kernel
theorem d_Md_compared_32 : decode prog_14_method_23_code 32 = .ok (.if_icmp .eq 5, 3) := by decide +kernel
theorem d_Md_compared_35 : decode prog_14_method_23_code 35 = .ok (.iload_n 1, 1) := by decide +kernel
theorem d_Md_compared_36 : decode prog_14_method_23_code 36 = .ok (.ireturn, 1) := by decide +kernel
theorem d_Md_compared_37 : decode prog_14_method_23_code 37 = .ok (.aload_n 0, 1) := by decide +kernel
theorem d_Md_compared_38 : decode prog_14_method_23_code 38 = .ok (.dup, 1) := by decide +kernel
theorem d_Md_compared_39 : decode prog_14_method_23_code 39 = .ok (.getfield 145, 3) := by decide +kernel
theorem d_Md_compared_42 : decode prog_14_method_23_code 42 = .ok (.iconst 1, 1) := by decide +kernel
theorem d_Md_compared_43 : decode prog_14_method_23_code 43 = .ok (.iadd, 1) := by decide +kernel
theorem d_Md_compared_44 : decode prog_14_method_23_code 44 = .ok (.putfield 145, 3) := by decide +kernel
theorem d_Md_compared_47 : decode prog_14_method_23_code 47 = .ok (.aload_n 0, 1) := by decide +kernel
theorem d_Md_compared_48 : decode prog_14_method_23_code 48 = .ok (.invokevirtual 170, 3) := by decide +kernel
theorem d_Md_compared_51 : decode prog_14_method_23_code 51 = .ok (.istore_n 3, 1) := by decide +kernel
theorem d_Md_compared_52 : decode prog_14_method_23_code 52 = .ok (.iload_n 2, 1) := by decide +kernel
theorem d_Md_compared_53 : decode prog_14_method_23_code 53 = .ok (.bipush 60, 2) := by decide +kernel
theorem d_Md_compared_55 : decode prog_14_method_23_code 55 = .ok (.if_icmp .ne 11, 3) := by decide +kernel
theorem d_Md_compared_58 : decode prog_14_method_23_code 58 = .ok (.iload_n 1, 1) := by decide +kernel
theorem d_Md_compared_59 : decode prog_14_method_23_code 59 = .ok (.iload_n 3, 1) := by decide +kernel
theorem d_Md_compared_60 : decode prog_14_method_23_code 60 = .ok (.if_icmp .ge 29, 3) := by decide +kernel
theorem d_Md_compared_63 : decode prog_14_method_23_code 63 = .ok (.goto 22, 3) := by decide +kernel
theorem d_Md_compared_66 : decode prog_14_method_23_code 66 = .ok (.iload_n 2, 1) := by decide +kernel
theorem d_Md_compared_67 : decode prog_14_method_23_code 67 = .ok (.bipush 61, 2) := by decide +kernel
theorem d_Md_compared_69 : decode prog_14_method_23_code 69 = .ok (.if_icmp .ne 11, 3) := by decide +kernel
theorem d_Md_compared_72 : decode prog_14_method_23_code 72 = .ok (.iload_n 1, 1) := by decide +kernel
theorem d_Md_compared_73 : decode prog_14_method_23_code 73 = .ok (.iload_n 3, 1) := by decide +kernel
theorem d_Md_compared_74 : decode prog_14_method_23_code 74 = .ok (.if_icmp .ne 15, 3) := by decide +kernel
theorem d_Md_compared_77 : decode prog_14_method_23_code 77 = .ok (.goto 8, 3) := by decide +kernel
theorem d_Md_compared_80 : decode prog_14_method_23_code 80 = .ok (.iload_n 1, 1) := by decide +kernel
theorem d_Md_compared_81 : decode prog_14_method_23_code 81 = .ok (.iload_n 3, 1) := by decide +kernel
theorem d_Md_compared_82 : decode prog_14_method_23_code 82 = .ok (.if_icmp .le 7, 3) := by decide +kernel
theorem d_Md_compared_85 : decode prog_14_method_23_code 85 = .ok (.iconst 1, 1) := by decide +kernel
theorem d_Md_compared_86 : decode prog_14_method_23_code 86 = .ok (.goto 4, 3) := by decide +kernel
theorem d_Md_compared_89 : decode prog_14_method_23_code 89 = .ok (.iconst 0, 1) := by decide +kernel
theorem d_Md_compared_90 : decode prog_14_method_23_code 90 = .ok (.ireturn, 1) := by decide +kernel
theorem d_Md_sums_0 : decode prog_14_method_24_code 0 = .ok (.aload_n 0, 1) := by decide +kernel
theorem d_Md_sums_1 : decode prog_14_method_24_code 1 = .ok (.invokevirtual 173, 3) := by decide +kernel
theorem d_Md_sums_4 : decode prog_14_method_24_code 4 = .ok (.istore_n 1, 1) := by decide +kernel
theorem d_Md_sums_5 : decode prog_14_method_24_code 5 = .ok (.aload_n 0, 1) := by decide +kernel
theorem d_Md_sums_6 : decode prog_14_method_24_code 6 = .ok (.getfield 154, 3) := by decide +kernel
theorem d_Md_sums_9 : decode prog_14_method_24_code 9 = .ok (.ifCond .ge 68, 3) := by decide +kernel
theorem d_Md_sums_12 : decode prog_14_method_24_code 12 = .ok (.aload_n 0, 1) := by decide +kernel
theorem d_Md_sums_13 : decode prog_14_method_24_code 13 = .ok (.invokevirtual 157, 3) := by decide +kernel
theorem d_Md_sums_16 : decode prog_14_method_24_code 16 = .ok (.bipush 43, 2) := by decide +kernel
theorem d_Md_sums_18 : decode prog_14_method_24_code 18 = .ok (.if_icmp .eq 12, 3) := by decide +kernel
theorem d_Md_sums_21 : decode prog_14_method_24_code 21 = .ok (.aload_n 0, 1) := by decide +kernel
theorem d_Md_sums_22 : decode prog_14_method_24_code 22 = .ok (.invokevirtual 157, 3) := by decide +kernel
theorem d_Md_sums_25 : decode prog_14_method_24_code 25 = .ok (.bipush 45, 2) := by decide +kernel
theorem d_Md_sums_27 : decode prog_14_method_24_code 27 = .ok (.if_icmp .ne 50, 3) := by decide +kernel
theorem d_Md_sums_30 : decode prog_14_method_24_code 30 = .ok (.aload_n 0, 1) := by decide +kernel
theorem d_Md_sums_31 : decode prog_14_method_24_code 31 = .ok (.invokevirtual 157, 3) := by decide +kernel
theorem d_Md_sums_34 : decode prog_14_method_24_code 34 = .ok (.bipush 43, 2) := by decide +kernel
theorem d_Md_sums_36 : decode prog_14_method_24_code 36 = .ok (.if_icmp .ne 7, 3) := by decide +kernel
theorem d_Md_sums_39 : decode prog_14_method_24_code 39 = .ok (.iconst 1, 1) := by decide +kernel
theorem d_Md_sums_40 : decode prog_14_method_24_code 40 = .ok (.goto 4, 3) := by decide +kernel
theorem d_Md_sums_43 : decode prog_14_method_24_code 43 = .ok (.iconst 0, 1) := by decide +kernel
theorem d_Md_sums_44 : decode prog_14_method_24_code 44 = .ok (.istore_n 2, 1) := by decide +kernel
theorem d_Md_sums_45 : decode prog_14_method_24_code 45 = .ok (.aload_n 0, 1) := by decide +kernel
theorem d_Md_sums_46 : decode prog_14_method_24_code 46 = .ok (.dup, 1) := by decide +kernel
theorem d_Md_sums_47 : decode prog_14_method_24_code 47 = .ok (.getfield 145, 3) := by decide +kernel
theorem d_Md_sums_50 : decode prog_14_method_24_code 50 = .ok (.iconst 1, 1) := by decide +kernel
theorem d_Md_sums_51 : decode prog_14_method_24_code 51 = .ok (.iadd, 1) := by decide +kernel
theorem d_Md_sums_52 : decode prog_14_method_24_code 52 = .ok (.putfield 145, 3) := by decide +kernel
theorem d_Md_sums_55 : decode prog_14_method_24_code 55 = .ok (.aload_n 0, 1) := by decide +kernel
theorem d_Md_sums_56 : decode prog_14_method_24_code 56 = .ok (.invokevirtual 173, 3) := by decide +kernel
theorem d_Md_sums_59 : decode prog_14_method_24_code 59 = .ok (.istore_n 3, 1) := by decide +kernel
theorem d_Md_sums_60 : decode prog_14_method_24_code 60 = .ok (.iload_n 2, 1) := by decide +kernel
theorem d_Md_sums_61 : decode prog_14_method_24_code 61 = .ok (.ifCond .eq 9, 3) := by decide +kernel
theorem d_Md_sums_64 : decode prog_14_method_24_code 64 = .ok (.iload_n 1, 1) := by decide +kernel
theorem d_Md_sums_65 : decode prog_14_method_24_code 65 = .ok (.iload_n 3, 1) := by decide +kernel
theorem d_Md_sums_66 : decode prog_14_method_24_code 66 = .ok (.iadd, 1) := by decide +kernel
theorem d_Md_sums_67 : decode prog_14_method_24_code 67 = .ok (.goto 6, 3) := by decide +kernel
theorem d_Md_sums_70 : decode prog_14_method_24_code 70 = .ok (.iload_n 1, 1) := by decide +kernel
theorem d_Md_sums_71 : decode prog_14_method_24_code 71 = .ok (.iload_n 3, 1) := by decide +kernel
theorem d_Md_sums_72 : decode prog_14_method_24_code 72 = .ok (.isub, 1) := by decide +kernel
theorem d_Md_sums_73 : decode prog_14_method_24_code 73 = .ok (.istore_n 1, 1) := by decide +kernel
theorem d_Md_sums_74 : decode prog_14_method_24_code 74 = .ok (.goto (-69), 3) := by decide +kernel
theorem d_Md_sums_77 : decode prog_14_method_24_code 77 = .ok (.iload_n 1, 1) := by decide +kernel
theorem d_Md_sums_78 : decode prog_14_method_24_code 78 = .ok (.ireturn, 1) := by decide +kernel
theorem d_Md_product_0 : decode prog_14_method_25_code 0 = .ok (.aload_n 0, 1) := by decide +kernel
theorem d_Md_product_1 : decode prog_14_method_25_code 1 = .ok (.invokevirtual 176, 3) := by decide +kernel
theorem d_Md_product_4 : decode prog_14_method_25_code 4 = .ok (.istore_n 1, 1) := by decide +kernel
theorem d_Md_product_5 : decode prog_14_method_25_code 5 = .ok (.aload_n 0, 1) := by decide +kernel
theorem d_Md_product_6 : decode prog_14_method_25_code 6 = .ok (.invokevirtual 157, 3) := by decide +kernel
theorem d_Md_product_9 : decode prog_14_method_25_code 9 = .ok (.istore_n 2, 1) := by decide +kernel
theorem d_Md_product_10 : decode prog_14_method_25_code 10 = .ok (.aload_n 0, 1) := by decide +kernel
theorem d_Md_product_11 : decode prog_14_method_25_code 11 = .ok (.getfield 154, 3) := by decide +kernel
theorem d_Md_product_14 : decode prog_14_method_25_code 14 = .ok (.ifCond .ge 80, 3) := by decide +kernel
theorem d_Md_product_17 : decode prog_14_method_25_code 17 = .ok (.iload_n 2, 1) := by decide +kernel
theorem d_Md_product_18 : decode prog_14_method_25_code 18 = .ok (.bipush 42, 2) := by decide +kernel
theorem d_Md_product_20 : decode prog_14_method_25_code 20 = .ok (.if_icmp .eq 15, 3) := by decide +kernel
theorem d_Md_product_23 : decode prog_14_method_25_code 23 = .ok (.iload_n 2, 1) := by decide +kernel
theorem d_Md_product_24 : decode prog_14_method_25_code 24 = .ok (.bipush 47, 2) := by decide +kernel
theorem d_Md_product_26 : decode prog_14_method_25_code 26 = .ok (.if_icmp .eq 9, 3) := by decide +kernel
theorem d_Md_product_29 : decode prog_14_method_25_code 29 = .ok (.iload_n 2, 1) := by decide +kernel
theorem d_Md_product_30 : decode prog_14_method_25_code 30 = .ok (.bipush 37, 2) := by decide +kernel
theorem d_Md_product_32 : decode prog_14_method_25_code 32 = .ok (.if_icmp .ne 62, 3) := by decide +kernel
theorem d_Md_product_35 : decode prog_14_method_25_code 35 = .ok (.aload_n 0, 1) := by decide +kernel
theorem d_Md_product_36 : decode prog_14_method_25_code 36 = .ok (.dup, 1) := by decide +kernel
theorem d_Md_product_37 : decode prog_14_method_25_code 37 = .ok (.getfield 145, 3) := by decide +kernel
theorem d_Md_product_40 : decode prog_14_method_25_code 40 = .ok (.iconst 1, 1) := by decide +kernel
theorem d_Md_product_41 : decode prog_14_method_25_code 41 = .ok (.iadd, 1) := by decide +kernel
theorem d_Md_product_42 : decode prog_14_method_25_code 42 = .ok (.putfield 145, 3) := by decide +kernel
theorem d_Md_product_45 : decode prog_14_method_25_code 45 = .ok (.aload_n 0, 1) := by decide +kernel
theorem d_Md_product_46 : decode prog_14_method_25_code 46 = .ok (.invokevirtual 176, 3) := by decide +kernel
theorem d_Md_product_49 : decode prog_14_method_25_code 49 = .ok (.istore_n 3, 1) := by decide +kernel
theorem d_Md_product_50 : decode prog_14_method_25_code 50 = .ok (.iload_n 2, 1) := by decide +kernel
theorem d_Md_product_51 : decode prog_14_method_25_code 51 = .ok (.bipush 42, 2) := by decide +kernel
theorem d_Md_product_53 : decode prog_14_method_25_code 53 = .ok (.if_icmp .ne 9, 3) := by decide +kernel
theorem d_Md_product_56 : decode prog_14_method_25_code 56 = .ok (.iload_n 1, 1) := by decide +kernel
theorem d_Md_product_57 : decode prog_14_method_25_code 57 = .ok (.iload_n 3, 1) := by decide +kernel
theorem d_Md_product_58 : decode prog_14_method_25_code 58 = .ok (.imul, 1) := by decide +kernel
theorem d_Md_product_59 : decode prog_14_method_25_code 59 = .ok (.goto 26, 3) := by decide +kernel
theorem d_Md_product_62 : decode prog_14_method_25_code 62 = .ok (.iload_n 3, 1) := by decide +kernel
theorem d_Md_product_63 : decode prog_14_method_25_code 63 = .ok (.ifCond .ne 7, 3) := by decide +kernel
theorem d_Md_product_66 : decode prog_14_method_25_code 66 = .ok (.iconst 0, 1) := by decide +kernel
theorem d_Md_product_67 : decode prog_14_method_25_code 67 = .ok (.goto 18, 3) := by decide +kernel
theorem d_Md_product_70 : decode prog_14_method_25_code 70 = .ok (.iload_n 2, 1) := by decide +kernel
theorem d_Md_product_71 : decode prog_14_method_25_code 71 = .ok (.bipush 47, 2) := by decide +kernel
theorem d_Md_product_73 : decode prog_14_method_25_code 73 = .ok (.if_icmp .ne 9, 3) := by decide +kernel
theorem d_Md_product_76 : decode prog_14_method_25_code 76 = .ok (.iload_n 1, 1) := by decide +kernel
theorem d_Md_product_77 : decode prog_14_method_25_code 77 = .ok (.iload_n 3, 1) := by decide +kernel
theorem d_Md_product_78 : decode prog_14_method_25_code 78 = .ok (.idiv, 1) := by decide +kernel
theorem d_Md_product_79 : decode prog_14_method_25_code 79 = .ok (.goto 6, 3) := by decide +kernel
theorem d_Md_product_82 : decode prog_14_method_25_code 82 = .ok (.iload_n 1, 1) := by decide +kernel
theorem d_Md_product_83 : decode prog_14_method_25_code 83 = .ok (.iload_n 3, 1) := by decide +kernel
theorem d_Md_product_84 : decode prog_14_method_25_code 84 = .ok (.irem, 1) := by decide +kernel
theorem d_Md_product_85 : decode prog_14_method_25_code 85 = .ok (.istore_n 1, 1) := by decide +kernel
theorem d_Md_product_86 : decode prog_14_method_25_code 86 = .ok (.aload_n 0, 1) := by decide +kernel
theorem d_Md_product_87 : decode prog_14_method_25_code 87 = .ok (.invokevirtual 157, 3) := by decide +kernel
theorem d_Md_product_90 : decode prog_14_method_25_code 90 = .ok (.istore_n 2, 1) := by decide +kernel
theorem d_Md_product_91 : decode prog_14_method_25_code 91 = .ok (.goto (-81), 3) := by decide +kernel
theorem d_Md_product_94 : decode prog_14_method_25_code 94 = .ok (.iload_n 1, 1) := by decide +kernel
theorem d_Md_product_95 : decode prog_14_method_25_code 95 = .ok (.ireturn, 1) := by decide +kernel
theorem d_Md_nameOf_0 : decode prog_14_method_26_code 0 = .ok (.iload_n 0, 1) := by decide +kernel
theorem d_Md_nameOf_1 : decode prog_14_method_26_code 1 = .ok (.tableswitch 103 101 119 #[93, 103, 103, 91, 103, 103, 99, 103, 103, 101, 103, 103, 103, 103, 97, 103, 103, 103, 95], 91) := by decide +kernel
theorem d_Md_nameOf_92 : decode prog_14_method_26_code 92 = .ok (.iconst 0, 1) := by decide +kernel
theorem d_Md_nameOf_93 : decode prog_14_method_26_code 93 = .ok (.ireturn, 1) := by decide +kernel
theorem d_Md_nameOf_94 : decode prog_14_method_26_code 94 = .ok (.iconst 1, 1) := by decide +kernel
theorem d_Md_nameOf_95 : decode prog_14_method_26_code 95 = .ok (.ireturn, 1) := by decide +kernel
theorem d_Md_nameOf_96 : decode prog_14_method_26_code 96 = .ok (.iconst 2, 1) := by decide +kernel
theorem d_Md_nameOf_97 : decode prog_14_method_26_code 97 = .ok (.ireturn, 1) := by decide +kernel
theorem d_Md_nameOf_98 : decode prog_14_method_26_code 98 = .ok (.iconst 3, 1) := by decide +kernel
theorem d_Md_nameOf_99 : decode prog_14_method_26_code 99 = .ok (.ireturn, 1) := by decide +kernel
theorem d_Md_nameOf_100 : decode prog_14_method_26_code 100 = .ok (.iconst 4, 1) := by decide +kernel
theorem d_Md_nameOf_101 : decode prog_14_method_26_code 101 = .ok (.ireturn, 1) := by decide +kernel
theorem d_Md_nameOf_102 : decode prog_14_method_26_code 102 = .ok (.iconst 5, 1) := by decide +kernel
theorem d_Md_nameOf_103 : decode prog_14_method_26_code 103 = .ok (.ireturn, 1) := by decide +kernel
theorem d_Md_nameOf_104 : decode prog_14_method_26_code 104 = .ok (.iconst (-1), 1) := by decide +kernel
theorem d_Md_nameOf_105 : decode prog_14_method_26_code 105 = .ok (.ireturn, 1) := by decide +kernel
theorem d_Md_one_0 : decode prog_14_method_27_code 0 = .ok (.aload_n 0, 1) := by decide +kernel
theorem d_Md_one_1 : decode prog_14_method_27_code 1 = .ok (.getfield 154, 3) := by decide +kernel
theorem d_Md_one_4 : decode prog_14_method_27_code 4 = .ok (.ifCond .lt 5, 3) := by decide +kernel
theorem d_Md_one_7 : decode prog_14_method_27_code 7 = .ok (.iconst 0, 1) := by decide +kernel
theorem d_Md_one_8 : decode prog_14_method_27_code 8 = .ok (.ireturn, 1) := by decide +kernel
theorem d_Md_one_9 : decode prog_14_method_27_code 9 = .ok (.aload_n 0, 1) := by decide +kernel
theorem d_Md_one_10 : decode prog_14_method_27_code 10 = .ok (.invokevirtual 157, 3) := by decide +kernel
theorem d_Md_one_13 : decode prog_14_method_27_code 13 = .ok (.istore_n 1, 1) := by decide +kernel
theorem d_Md_one_14 : decode prog_14_method_27_code 14 = .ok (.iload_n 1, 1) := by decide +kernel
theorem d_Md_one_15 : decode prog_14_method_27_code 15 = .ok (.bipush 33, 2) := by decide +kernel
theorem d_Md_one_17 : decode prog_14_method_27_code 17 = .ok (.if_icmp .eq 15, 3) := by decide +kernel
theorem d_Md_one_20 : decode prog_14_method_27_code 20 = .ok (.iload_n 1, 1) := by decide +kernel
theorem d_Md_one_21 : decode prog_14_method_27_code 21 = .ok (.bipush 45, 2) := by decide +kernel
theorem d_Md_one_23 : decode prog_14_method_27_code 23 = .ok (.if_icmp .eq 9, 3) := by decide +kernel
theorem d_Md_one_26 : decode prog_14_method_27_code 26 = .ok (.iload_n 1, 1) := by decide +kernel
theorem d_Md_one_27 : decode prog_14_method_27_code 27 = .ok (.bipush 40, 2) := by decide +kernel
theorem d_Md_one_29 : decode prog_14_method_27_code 29 = .ok (.if_icmp .ne 116, 3) := by decide +kernel
theorem d_Md_one_32 : decode prog_14_method_27_code 32 = .ok (.aload_n 0, 1) := by decide +kernel
theorem d_Md_one_33 : decode prog_14_method_27_code 33 = .ok (.getfield 179, 3) := by decide +kernel
theorem d_Md_one_36 : decode prog_14_method_27_code 36 = .ok (.bipush 6, 2) := by decide +kernel
theorem d_Md_one_38 : decode prog_14_method_27_code 38 = .ok (.if_icmp .ne 8, 3) := by decide +kernel
theorem d_Md_one_41 : decode prog_14_method_27_code 41 = .ok (.aload_n 0, 1) := by decide +kernel
theorem d_Md_one_42 : decode prog_14_method_27_code 42 = .ok (.invokevirtual 182, 3) := by decide +kernel
theorem d_Md_one_45 : decode prog_14_method_27_code 45 = .ok (.ireturn, 1) := by decide +kernel
theorem d_Md_one_46 : decode prog_14_method_27_code 46 = .ok (.aload_n 0, 1) := by decide +kernel
theorem d_Md_one_47 : decode prog_14_method_27_code 47 = .ok (.dup, 1) := by decide +kernel
theorem d_Md_one_48 : decode prog_14_method_27_code 48 = .ok (.getfield 179, 3) := by decide +kernel
theorem d_Md_one_51 : decode prog_14_method_27_code 51 = .ok (.iconst 1, 1) := by decide +kernel
theorem d_Md_one_52 : decode prog_14_method_27_code 52 = .ok (.iadd, 1) := by decide +kernel
theorem d_Md_one_53 : decode prog_14_method_27_code 53 = .ok (.putfield 179, 3) := by decide +kernel
theorem d_Md_one_56 : decode prog_14_method_27_code 56 = .ok (.aload_n 0, 1) := by decide +kernel
theorem d_Md_one_57 : decode prog_14_method_27_code 57 = .ok (.dup, 1) := by decide +kernel
theorem d_Md_one_58 : decode prog_14_method_27_code 58 = .ok (.getfield 145, 3) := by decide +kernel
theorem d_Md_one_61 : decode prog_14_method_27_code 61 = .ok (.iconst 1, 1) := by decide +kernel
theorem d_Md_one_62 : decode prog_14_method_27_code 62 = .ok (.iadd, 1) := by decide +kernel
theorem d_Md_one_63 : decode prog_14_method_27_code 63 = .ok (.putfield 145, 3) := by decide +kernel
theorem d_Md_one_66 : decode prog_14_method_27_code 66 = .ok (.iload_n 1, 1) := by decide +kernel
theorem d_Md_one_67 : decode prog_14_method_27_code 67 = .ok (.bipush 40, 2) := by decide +kernel
theorem d_Md_one_69 : decode prog_14_method_27_code 69 = .ok (.if_icmp .ne 10, 3) := by decide +kernel
theorem d_Md_one_72 : decode prog_14_method_27_code 72 = .ok (.aload_n 0, 1) := by decide +kernel
theorem d_Md_one_73 : decode prog_14_method_27_code 73 = .ok (.invokevirtual 185, 3) := by decide +kernel
theorem d_Md_one_76 : decode prog_14_method_27_code 76 = .ok (.goto 7, 3) := by decide +kernel
theorem d_Md_one_79 : decode prog_14_method_27_code 79 = .ok (.aload_n 0, 1) := by decide +kernel
theorem d_Md_one_80 : decode prog_14_method_27_code 80 = .ok (.invokevirtual 176, 3) := by decide +kernel
theorem d_Md_one_83 : decode prog_14_method_27_code 83 = .ok (.istore_n 2, 1) := by decide +kernel
theorem d_Md_one_84 : decode prog_14_method_27_code 84 = .ok (.iload_n 1, 1) := by decide +kernel
theorem d_Md_one_85 : decode prog_14_method_27_code 85 = .ok (.bipush 40, 2) := by decide +kernel
theorem d_Md_one_87 : decode prog_14_method_27_code 87 = .ok (.if_icmp .ne 17, 3) := by decide +kernel
theorem d_Md_one_90 : decode prog_14_method_27_code 90 = .ok (.aload_n 0, 1) := by decide +kernel
theorem d_Md_one_91 : decode prog_14_method_27_code 91 = .ok (.bipush 41, 2) := by decide +kernel
theorem d_Md_one_93 : decode prog_14_method_27_code 93 = .ok (.invokevirtual 164, 3) := by decide +kernel
theorem d_Md_one_96 : decode prog_14_method_27_code 96 = .ok (.ifCond .ne 8, 3) := by decide +kernel
theorem d_Md_one_99 : decode prog_14_method_27_code 99 = .ok (.aload_n 0, 1) := by decide +kernel
theorem d_Md_one_100 : decode prog_14_method_27_code 100 = .ok (.invokevirtual 182, 3) := by decide +kernel
theorem d_Md_one_103 : decode prog_14_method_27_code 103 = .ok (.ireturn, 1) := by decide +kernel
theorem d_Md_one_104 : decode prog_14_method_27_code 104 = .ok (.aload_n 0, 1) := by decide +kernel
theorem d_Md_one_105 : decode prog_14_method_27_code 105 = .ok (.dup, 1) := by decide +kernel
theorem d_Md_one_106 : decode prog_14_method_27_code 106 = .ok (.getfield 179, 3) := by decide +kernel
theorem d_Md_one_109 : decode prog_14_method_27_code 109 = .ok (.iconst 1, 1) := by decide +kernel
theorem d_Md_one_110 : decode prog_14_method_27_code 110 = .ok (.isub, 1) := by decide +kernel
theorem d_Md_one_111 : decode prog_14_method_27_code 111 = .ok (.putfield 179, 3) := by decide +kernel
theorem d_Md_one_114 : decode prog_14_method_27_code 114 = .ok (.iload_n 1, 1) := by decide +kernel
theorem d_Md_one_115 : decode prog_14_method_27_code 115 = .ok (.bipush 40, 2) := by decide +kernel
theorem d_Md_one_117 : decode prog_14_method_27_code 117 = .ok (.if_icmp .ne 7, 3) := by decide +kernel
theorem d_Md_one_120 : decode prog_14_method_27_code 120 = .ok (.iload_n 2, 1) := by decide +kernel
theorem d_Md_one_121 : decode prog_14_method_27_code 121 = .ok (.goto 23, 3) := by decide +kernel
theorem d_Md_one_124 : decode prog_14_method_27_code 124 = .ok (.iload_n 1, 1) := by decide +kernel
theorem d_Md_one_125 : decode prog_14_method_27_code 125 = .ok (.bipush 45, 2) := by decide +kernel
theorem d_Md_one_127 : decode prog_14_method_27_code 127 = .ok (.if_icmp .ne 8, 3) := by decide +kernel
theorem d_Md_one_130 : decode prog_14_method_27_code 130 = .ok (.iload_n 2, 1) := by decide +kernel
theorem d_Md_one_131 : decode prog_14_method_27_code 131 = .ok (.ineg, 1) := by decide +kernel
theorem d_Md_one_132 : decode prog_14_method_27_code 132 = .ok (.goto 12, 3) := by decide +kernel
theorem d_Md_one_135 : decode prog_14_method_27_code 135 = .ok (.iload_n 2, 1) := by decide +kernel
theorem d_Md_one_136 : decode prog_14_method_27_code 136 = .ok (.ifCond .ne 7, 3) := by decide +kernel
theorem d_Md_one_139 : decode prog_14_method_27_code 139 = .ok (.iconst 1, 1) := by decide +kernel
theorem d_Md_one_140 : decode prog_14_method_27_code 140 = .ok (.goto 4, 3) := by decide +kernel
theorem d_Md_one_143 : decode prog_14_method_27_code 143 = .ok (.iconst 0, 1) := by decide +kernel
theorem d_Md_one_144 : decode prog_14_method_27_code 144 = .ok (.ireturn, 1) := by decide +kernel
theorem d_Md_one_145 : decode prog_14_method_27_code 145 = .ok (.iload_n 1, 1) := by decide +kernel
theorem d_Md_one_146 : decode prog_14_method_27_code 146 = .ok (.invokestatic 188, 3) := by decide +kernel
theorem d_Md_one_149 : decode prog_14_method_27_code 149 = .ok (.istore_n 2, 1) := by decide +kernel
theorem d_Md_one_150 : decode prog_14_method_27_code 150 = .ok (.iload_n 2, 1) := by decide +kernel
theorem d_Md_one_151 : decode prog_14_method_27_code 151 = .ok (.ifCond .lt 20, 3) := by decide +kernel
theorem d_Md_one_154 : decode prog_14_method_27_code 154 = .ok (.aload_n 0, 1) := by decide +kernel
theorem d_Md_one_155 : decode prog_14_method_27_code 155 = .ok (.dup, 1) := by decide +kernel
theorem d_Md_one_156 : decode prog_14_method_27_code 156 = .ok (.getfield 145, 3) := by decide +kernel
theorem d_Md_one_159 : decode prog_14_method_27_code 159 = .ok (.iconst 1, 1) := by decide +kernel
theorem d_Md_one_160 : decode prog_14_method_27_code 160 = .ok (.iadd, 1) := by decide +kernel
theorem d_Md_one_161 : decode prog_14_method_27_code 161 = .ok (.putfield 145, 3) := by decide +kernel
theorem d_Md_one_164 : decode prog_14_method_27_code 164 = .ok (.aload_n 0, 1) := by decide +kernel
theorem d_Md_one_165 : decode prog_14_method_27_code 165 = .ok (.getfield 33, 3) := by decide +kernel
theorem d_Md_one_168 : decode prog_14_method_27_code 168 = .ok (.iload_n 2, 1) := by decide +kernel
theorem d_Md_one_169 : decode prog_14_method_27_code 169 = .ok (.iaload, 1) := by decide +kernel
theorem d_Md_one_170 : decode prog_14_method_27_code 170 = .ok (.ireturn, 1) := by decide +kernel
theorem d_Md_one_171 : decode prog_14_method_27_code 171 = .ok (.iconst 0, 1) := by decide +kernel
theorem d_Md_one_172 : decode prog_14_method_27_code 172 = .ok (.istore_n 3, 1) := by decide +kernel
theorem d_Md_one_173 : decode prog_14_method_27_code 173 = .ok (.iconst 0, 1) := by decide +kernel
theorem d_Md_one_174 : decode prog_14_method_27_code 174 = .ok (.istore 4, 2) := by decide +kernel
theorem d_Md_one_176 : decode prog_14_method_27_code 176 = .ok (.iload 4, 2) := by decide +kernel
theorem d_Md_one_178 : decode prog_14_method_27_code 178 = .ok (.iconst 4, 1) := by decide +kernel
theorem d_Md_one_179 : decode prog_14_method_27_code 179 = .ok (.if_icmp .ge 50, 3) := by decide +kernel
theorem d_Md_one_182 : decode prog_14_method_27_code 182 = .ok (.aload_n 0, 1) := by decide +kernel
theorem d_Md_one_183 : decode prog_14_method_27_code 183 = .ok (.invokevirtual 157, 3) := by decide +kernel
theorem d_Md_one_186 : decode prog_14_method_27_code 186 = .ok (.bipush 48, 2) := by decide +kernel
theorem d_Md_one_188 : decode prog_14_method_27_code 188 = .ok (.if_icmp .lt 41, 3) := by decide +kernel
theorem d_Md_one_191 : decode prog_14_method_27_code 191 = .ok (.aload_n 0, 1) := by decide +kernel
theorem d_Md_one_192 : decode prog_14_method_27_code 192 = .ok (.invokevirtual 157, 3) := by decide +kernel
theorem d_Md_one_195 : decode prog_14_method_27_code 195 = .ok (.bipush 57, 2) := by decide +kernel
theorem d_Md_one_197 : decode prog_14_method_27_code 197 = .ok (.if_icmp .gt 32, 3) := by decide +kernel
theorem d_Md_one_200 : decode prog_14_method_27_code 200 = .ok (.bipush 10, 2) := by decide +kernel
theorem d_Md_one_202 : decode prog_14_method_27_code 202 = .ok (.iload_n 3, 1) := by decide +kernel
theorem d_Md_one_203 : decode prog_14_method_27_code 203 = .ok (.imul, 1) := by decide +kernel
theorem d_Md_one_204 : decode prog_14_method_27_code 204 = .ok (.aload_n 0, 1) := by decide +kernel
theorem d_Md_one_205 : decode prog_14_method_27_code 205 = .ok (.invokevirtual 157, 3) := by decide +kernel
theorem d_Md_one_208 : decode prog_14_method_27_code 208 = .ok (.iadd, 1) := by decide +kernel
theorem d_Md_one_209 : decode prog_14_method_27_code 209 = .ok (.bipush 48, 2) := by decide +kernel
theorem d_Md_one_211 : decode prog_14_method_27_code 211 = .ok (.isub, 1) := by decide +kernel
theorem d_Md_one_212 : decode prog_14_method_27_code 212 = .ok (.istore_n 3, 1) := by decide +kernel
theorem d_Md_one_213 : decode prog_14_method_27_code 213 = .ok (.iinc 4 1, 3) := by decide +kernel
theorem d_Md_one_216 : decode prog_14_method_27_code 216 = .ok (.aload_n 0, 1) := by decide +kernel
theorem d_Md_one_217 : decode prog_14_method_27_code 217 = .ok (.dup, 1) := by decide +kernel
theorem d_Md_one_218 : decode prog_14_method_27_code 218 = .ok (.getfield 145, 3) := by decide +kernel
theorem d_Md_one_221 : decode prog_14_method_27_code 221 = .ok (.iconst 1, 1) := by decide +kernel
theorem d_Md_one_222 : decode prog_14_method_27_code 222 = .ok (.iadd, 1) := by decide +kernel
theorem d_Md_one_223 : decode prog_14_method_27_code 223 = .ok (.putfield 145, 3) := by decide +kernel
theorem d_Md_one_226 : decode prog_14_method_27_code 226 = .ok (.goto (-50), 3) := by decide +kernel
theorem d_Md_one_229 : decode prog_14_method_27_code 229 = .ok (.iload 4, 2) := by decide +kernel
theorem d_Md_one_231 : decode prog_14_method_27_code 231 = .ok (.ifCond .ne 10, 3) := by decide +kernel
theorem d_Md_one_234 : decode prog_14_method_27_code 234 = .ok (.aload_n 0, 1) := by decide +kernel
theorem d_Md_one_235 : decode prog_14_method_27_code 235 = .ok (.invokevirtual 182, 3) := by decide +kernel
theorem d_Md_one_238 : decode prog_14_method_27_code 238 = .ok (.goto 4, 3) := by decide +kernel
theorem d_Md_one_241 : decode prog_14_method_27_code 241 = .ok (.iload_n 3, 1) := by decide +kernel
theorem d_Md_one_242 : decode prog_14_method_27_code 242 = .ok (.ireturn, 1) := by decide +kernel
theorem d_Md_workOut_0 : decode prog_14_method_28_code 0 = .ok (.aload_n 0, 1) := by decide +kernel
theorem d_Md_workOut_1 : decode prog_14_method_28_code 1 = .ok (.iload_n 1, 1) := by decide +kernel
theorem d_Md_workOut_2 : decode prog_14_method_28_code 2 = .ok (.putfield 151, 3) := by decide +kernel
theorem d_Md_workOut_5 : decode prog_14_method_28_code 5 = .ok (.aload_n 0, 1) := by decide +kernel
theorem d_Md_workOut_6 : decode prog_14_method_28_code 6 = .ok (.iconst 0, 1) := by decide +kernel
theorem d_Md_workOut_7 : decode prog_14_method_28_code 7 = .ok (.putfield 145, 3) := by decide +kernel
theorem d_Md_workOut_10 : decode prog_14_method_28_code 10 = .ok (.aload_n 0, 1) := by decide +kernel
theorem d_Md_workOut_11 : decode prog_14_method_28_code 11 = .ok (.iload_n 2, 1) := by decide +kernel
theorem d_Md_workOut_12 : decode prog_14_method_28_code 12 = .ok (.putfield 148, 3) := by decide +kernel
theorem d_Md_workOut_15 : decode prog_14_method_28_code 15 = .ok (.aload_n 0, 1) := by decide +kernel
theorem d_Md_workOut_16 : decode prog_14_method_28_code 16 = .ok (.iconst (-1), 1) := by decide +kernel
theorem d_Md_workOut_17 : decode prog_14_method_28_code 17 = .ok (.putfield 154, 3) := by decide +kernel
theorem d_Md_workOut_20 : decode prog_14_method_28_code 20 = .ok (.aload_n 0, 1) := by decide +kernel
theorem d_Md_workOut_21 : decode prog_14_method_28_code 21 = .ok (.iconst 0, 1) := by decide +kernel
theorem d_Md_workOut_22 : decode prog_14_method_28_code 22 = .ok (.putfield 179, 3) := by decide +kernel
theorem d_Md_workOut_25 : decode prog_14_method_28_code 25 = .ok (.iconst 0, 1) := by decide +kernel
theorem d_Md_workOut_26 : decode prog_14_method_28_code 26 = .ok (.istore_n 3, 1) := by decide +kernel
theorem d_Md_workOut_27 : decode prog_14_method_28_code 27 = .ok (.iconst 0, 1) := by decide +kernel
theorem d_Md_workOut_28 : decode prog_14_method_28_code 28 = .ok (.istore 4, 2) := by decide +kernel
theorem d_Md_workOut_30 : decode prog_14_method_28_code 30 = .ok (.iconst 1, 1) := by decide +kernel
theorem d_Md_workOut_31 : decode prog_14_method_28_code 31 = .ok (.istore 5, 2) := by decide +kernel
theorem d_Md_workOut_33 : decode prog_14_method_28_code 33 = .ok (.iload 5, 2) := by decide +kernel
theorem d_Md_workOut_35 : decode prog_14_method_28_code 35 = .ok (.ifCond .eq 72, 3) := by decide +kernel
theorem d_Md_workOut_38 : decode prog_14_method_28_code 38 = .ok (.aload_n 0, 1) := by decide +kernel
theorem d_Md_workOut_39 : decode prog_14_method_28_code 39 = .ok (.invokevirtual 185, 3) := by decide +kernel
theorem d_Md_workOut_42 : decode prog_14_method_28_code 42 = .ok (.istore 6, 2) := by decide +kernel
theorem d_Md_workOut_44 : decode prog_14_method_28_code 44 = .ok (.iconst 1, 1) := by decide +kernel
theorem d_Md_workOut_45 : decode prog_14_method_28_code 45 = .ok (.istore 7, 2) := by decide +kernel
theorem d_Md_workOut_47 : decode prog_14_method_28_code 47 = .ok (.aload_n 0, 1) := by decide +kernel
theorem d_Md_workOut_48 : decode prog_14_method_28_code 48 = .ok (.bipush 63, 2) := by decide +kernel
theorem d_Md_workOut_50 : decode prog_14_method_28_code 50 = .ok (.invokevirtual 164, 3) := by decide +kernel
theorem d_Md_workOut_53 : decode prog_14_method_28_code 53 = .ok (.ifCond .eq 21, 3) := by decide +kernel
theorem d_Md_workOut_56 : decode prog_14_method_28_code 56 = .ok (.iload 6, 2) := by decide +kernel
theorem d_Md_workOut_58 : decode prog_14_method_28_code 58 = .ok (.ifCond .eq 7, 3) := by decide +kernel
theorem d_Md_workOut_61 : decode prog_14_method_28_code 61 = .ok (.iconst 1, 1) := by decide +kernel
theorem d_Md_workOut_62 : decode prog_14_method_28_code 62 = .ok (.goto 4, 3) := by decide +kernel
theorem d_Md_workOut_65 : decode prog_14_method_28_code 65 = .ok (.iconst 0, 1) := by decide +kernel
theorem d_Md_workOut_66 : decode prog_14_method_28_code 66 = .ok (.istore 7, 2) := by decide +kernel
theorem d_Md_workOut_68 : decode prog_14_method_28_code 68 = .ok (.aload_n 0, 1) := by decide +kernel
theorem d_Md_workOut_69 : decode prog_14_method_28_code 69 = .ok (.invokevirtual 185, 3) := by decide +kernel
theorem d_Md_workOut_72 : decode prog_14_method_28_code 72 = .ok (.istore 6, 2) := by decide +kernel
theorem d_Md_workOut_74 : decode prog_14_method_28_code 74 = .ok (.aload_n 0, 1) := by decide +kernel
theorem d_Md_workOut_75 : decode prog_14_method_28_code 75 = .ok (.getfield 154, 3) := by decide +kernel
theorem d_Md_workOut_78 : decode prog_14_method_28_code 78 = .ok (.ifCond .ge 18, 3) := by decide +kernel
theorem d_Md_workOut_81 : decode prog_14_method_28_code 81 = .ok (.iload 7, 2) := by decide +kernel
theorem d_Md_workOut_83 : decode prog_14_method_28_code 83 = .ok (.ifCond .eq 13, 3) := by decide +kernel
theorem d_Md_workOut_86 : decode prog_14_method_28_code 86 = .ok (.iload_n 3, 1) := by decide +kernel
theorem d_Md_workOut_87 : decode prog_14_method_28_code 87 = .ok (.ifCond .ne 9, 3) := by decide +kernel
theorem d_Md_workOut_90 : decode prog_14_method_28_code 90 = .ok (.iconst 1, 1) := by decide +kernel
theorem d_Md_workOut_91 : decode prog_14_method_28_code 91 = .ok (.istore_n 3, 1) := by decide +kernel
theorem d_Md_workOut_92 : decode prog_14_method_28_code 92 = .ok (.iload 6, 2) := by decide +kernel
theorem d_Md_workOut_94 : decode prog_14_method_28_code 94 = .ok (.istore 4, 2) := by decide +kernel
theorem d_Md_workOut_96 : decode prog_14_method_28_code 96 = .ok (.aload_n 0, 1) := by decide +kernel
theorem d_Md_workOut_97 : decode prog_14_method_28_code 97 = .ok (.bipush 59, 2) := by decide +kernel
theorem d_Md_workOut_99 : decode prog_14_method_28_code 99 = .ok (.invokevirtual 164, 3) := by decide +kernel
theorem d_Md_workOut_102 : decode prog_14_method_28_code 102 = .ok (.istore 5, 2) := by decide +kernel
theorem d_Md_workOut_104 : decode prog_14_method_28_code 104 = .ok (.goto (-71), 3) := by decide +kernel
theorem d_Md_workOut_107 : decode prog_14_method_28_code 107 = .ok (.aload_n 0, 1) := by decide +kernel
theorem d_Md_workOut_108 : decode prog_14_method_28_code 108 = .ok (.getfield 154, 3) := by decide +kernel
theorem d_Md_workOut_111 : decode prog_14_method_28_code 111 = .ok (.ifCond .ge 19, 3) := by decide +kernel
theorem d_Md_workOut_114 : decode prog_14_method_28_code 114 = .ok (.aload_n 0, 1) := by decide +kernel
theorem d_Md_workOut_115 : decode prog_14_method_28_code 115 = .ok (.getfield 145, 3) := by decide +kernel
theorem d_Md_workOut_118 : decode prog_14_method_28_code 118 = .ok (.aload_n 0, 1) := by decide +kernel
theorem d_Md_workOut_119 : decode prog_14_method_28_code 119 = .ok (.getfield 148, 3) := by decide +kernel
theorem d_Md_workOut_122 : decode prog_14_method_28_code 122 = .ok (.if_icmp .ge 8, 3) := by decide +kernel
theorem d_Md_workOut_125 : decode prog_14_method_28_code 125 = .ok (.aload_n 0, 1) := by decide +kernel
theorem d_Md_workOut_126 : decode prog_14_method_28_code 126 = .ok (.invokevirtual 182, 3) := by decide +kernel
theorem d_Md_workOut_129 : decode prog_14_method_28_code 129 = .ok (.ireturn, 1) := by decide +kernel
theorem d_Md_workOut_130 : decode prog_14_method_28_code 130 = .ok (.iload 4, 2) := by decide +kernel
theorem d_Md_workOut_132 : decode prog_14_method_28_code 132 = .ok (.ireturn, 1) := by decide +kernel
theorem d_Md_law_0 : decode prog_14_method_29_code 0 = .ok (.aload_n 0, 1) := by decide +kernel
theorem d_Md_law_1 : decode prog_14_method_29_code 1 = .ok (.iconst (-1), 1) := by decide +kernel
theorem d_Md_law_2 : decode prog_14_method_29_code 2 = .ok (.aload_n 0, 1) := by decide +kernel
theorem d_Md_law_3 : decode prog_14_method_29_code 3 = .ok (.getfield 142, 3) := by decide +kernel
theorem d_Md_law_6 : decode prog_14_method_29_code 6 = .ok (.invokevirtual 192, 3) := by decide +kernel
theorem d_Md_law_9 : decode prog_14_method_29_code 9 = .ok (.istore_n 1, 1) := by decide +kernel
theorem d_Md_law_10 : decode prog_14_method_29_code 10 = .ok (.aload_n 0, 1) := by decide +kernel
theorem d_Md_law_11 : decode prog_14_method_29_code 11 = .ok (.getfield 142, 3) := by decide +kernel
theorem d_Md_law_14 : decode prog_14_method_29_code 14 = .ok (.istore_n 2, 1) := by decide +kernel
theorem d_Md_law_15 : decode prog_14_method_29_code 15 = .ok (.aload_n 0, 1) := by decide +kernel
theorem d_Md_law_16 : decode prog_14_method_29_code 16 = .ok (.iconst 0, 1) := by decide +kernel
theorem d_Md_law_17 : decode prog_14_method_29_code 17 = .ok (.putfield 142, 3) := by decide +kernel
theorem d_Md_law_20 : decode prog_14_method_29_code 20 = .ok (.aload_n 0, 1) := by decide +kernel
theorem d_Md_law_21 : decode prog_14_method_29_code 21 = .ok (.getfield 154, 3) := by decide +kernel
theorem d_Md_law_24 : decode prog_14_method_29_code 24 = .ok (.ifCond .lt 11, 3) := by decide +kernel
theorem d_Md_law_27 : decode prog_14_method_29_code 27 = .ok (.bipush (-100), 2) := by decide +kernel
theorem d_Md_law_29 : decode prog_14_method_29_code 29 = .ok (.aload_n 0, 1) := by decide +kernel
theorem d_Md_law_30 : decode prog_14_method_29_code 30 = .ok (.getfield 154, 3) := by decide +kernel
theorem d_Md_law_33 : decode prog_14_method_29_code 33 = .ok (.isub, 1) := by decide +kernel
theorem d_Md_law_34 : decode prog_14_method_29_code 34 = .ok (.ireturn, 1) := by decide +kernel
theorem d_Md_law_35 : decode prog_14_method_29_code 35 = .ok (.iconst 0, 1) := by decide +kernel
theorem d_Md_law_36 : decode prog_14_method_29_code 36 = .ok (.istore_n 3, 1) := by decide +kernel
theorem d_Md_law_37 : decode prog_14_method_29_code 37 = .ok (.iload_n 3, 1) := by decide +kernel
theorem d_Md_law_38 : decode prog_14_method_29_code 38 = .ok (.iload_n 2, 1) := by decide +kernel
theorem d_Md_law_39 : decode prog_14_method_29_code 39 = .ok (.if_icmp .ge 21, 3) := by decide +kernel
theorem d_Md_law_42 : decode prog_14_method_29_code 42 = .ok (.aload_n 0, 1) := by decide +kernel
theorem d_Md_law_43 : decode prog_14_method_29_code 43 = .ok (.getfield 30, 3) := by decide +kernel
theorem d_Md_law_46 : decode prog_14_method_29_code 46 = .ok (.iload_n 3, 1) := by decide +kernel
theorem d_Md_law_47 : decode prog_14_method_29_code 47 = .ok (.aload_n 0, 1) := by decide +kernel
theorem d_Md_law_48 : decode prog_14_method_29_code 48 = .ok (.getfield 27, 3) := by decide +kernel
theorem d_Md_law_51 : decode prog_14_method_29_code 51 = .ok (.iload_n 3, 1) := by decide +kernel
theorem d_Md_law_52 : decode prog_14_method_29_code 52 = .ok (.iaload, 1) := by decide +kernel
theorem d_Md_law_53 : decode prog_14_method_29_code 53 = .ok (.iastore, 1) := by decide +kernel
theorem d_Md_law_54 : decode prog_14_method_29_code 54 = .ok (.iinc 3 1, 3) := by decide +kernel
theorem d_Md_law_57 : decode prog_14_method_29_code 57 = .ok (.goto (-20), 3) := by decide +kernel
theorem d_Md_law_60 : decode prog_14_method_29_code 60 = .ok (.aload_n 0, 1) := by decide +kernel
theorem d_Md_law_61 : decode prog_14_method_29_code 61 = .ok (.iload_n 2, 1) := by decide +kernel
theorem d_Md_law_62 : decode prog_14_method_29_code 62 = .ok (.putfield 77, 3) := by decide +kernel
theorem d_Md_law_65 : decode prog_14_method_29_code 65 = .ok (.iconst 1, 1) := by decide +kernel
theorem d_Md_law_66 : decode prog_14_method_29_code 66 = .ok (.ireturn, 1) := by decide +kernel
theorem d_Md_tallAt_0 : decode prog_14_method_30_code 0 = .ok (.iconst 5, 1) := by decide +kernel
theorem d_Md_tallAt_1 : decode prog_14_method_30_code 1 = .ok (.iload_n 1, 1) := by decide +kernel
theorem d_Md_tallAt_2 : decode prog_14_method_30_code 2 = .ok (.imul, 1) := by decide +kernel
theorem d_Md_tallAt_3 : decode prog_14_method_30_code 3 = .ok (.istore 4, 2) := by decide +kernel
theorem d_Md_tallAt_5 : decode prog_14_method_30_code 5 = .ok (.aload_n 0, 1) := by decide +kernel
theorem d_Md_tallAt_6 : decode prog_14_method_30_code 6 = .ok (.getfield 77, 3) := by decide +kernel
theorem d_Md_tallAt_9 : decode prog_14_method_30_code 9 = .ok (.ifCond .ge 23, 3) := by decide +kernel
theorem d_Md_tallAt_12 : decode prog_14_method_30_code 12 = .ok (.aload_n 0, 1) := by decide +kernel
theorem d_Md_tallAt_13 : decode prog_14_method_30_code 13 = .ok (.getfield 11, 3) := by decide +kernel
theorem d_Md_tallAt_16 : decode prog_14_method_30_code 16 = .ok (.iload 4, 2) := by decide +kernel
theorem d_Md_tallAt_18 : decode prog_14_method_30_code 18 = .ok (.iconst 0, 1) := by decide +kernel
theorem d_Md_tallAt_19 : decode prog_14_method_30_code 19 = .ok (.iadd, 1) := by decide +kernel
theorem d_Md_tallAt_20 : decode prog_14_method_30_code 20 = .ok (.iaload, 1) := by decide +kernel
theorem d_Md_tallAt_21 : decode prog_14_method_30_code 21 = .ok (.aload_n 0, 1) := by decide +kernel
theorem d_Md_tallAt_22 : decode prog_14_method_30_code 22 = .ok (.getfield 11, 3) := by decide +kernel
theorem d_Md_tallAt_25 : decode prog_14_method_30_code 25 = .ok (.iload 4, 2) := by decide +kernel
theorem d_Md_tallAt_27 : decode prog_14_method_30_code 27 = .ok (.iconst 3, 1) := by decide +kernel
theorem d_Md_tallAt_28 : decode prog_14_method_30_code 28 = .ok (.iadd, 1) := by decide +kernel
theorem d_Md_tallAt_29 : decode prog_14_method_30_code 29 = .ok (.iaload, 1) := by decide +kernel
theorem d_Md_tallAt_30 : decode prog_14_method_30_code 30 = .ok (.iadd, 1) := by decide +kernel
theorem d_Md_tallAt_31 : decode prog_14_method_30_code 31 = .ok (.ireturn, 1) := by decide +kernel
theorem d_Md_tallAt_32 : decode prog_14_method_30_code 32 = .ok (.aload_n 0, 1) := by decide +kernel
theorem d_Md_tallAt_33 : decode prog_14_method_30_code 33 = .ok (.getfield 33, 3) := by decide +kernel
theorem d_Md_tallAt_36 : decode prog_14_method_30_code 36 = .ok (.iconst 0, 1) := by decide +kernel
theorem d_Md_tallAt_37 : decode prog_14_method_30_code 37 = .ok (.aload_n 0, 1) := by decide +kernel
theorem d_Md_tallAt_38 : decode prog_14_method_30_code 38 = .ok (.getfield 11, 3) := by decide +kernel
theorem d_Md_tallAt_41 : decode prog_14_method_30_code 41 = .ok (.iload 4, 2) := by decide +kernel
theorem d_Md_tallAt_43 : decode prog_14_method_30_code 43 = .ok (.iconst 0, 1) := by decide +kernel
theorem d_Md_tallAt_44 : decode prog_14_method_30_code 44 = .ok (.iadd, 1) := by decide +kernel
theorem d_Md_tallAt_45 : decode prog_14_method_30_code 45 = .ok (.iaload, 1) := by decide +kernel
theorem d_Md_tallAt_46 : decode prog_14_method_30_code 46 = .ok (.iastore, 1) := by decide +kernel
theorem d_Md_tallAt_47 : decode prog_14_method_30_code 47 = .ok (.aload_n 0, 1) := by decide +kernel
theorem d_Md_tallAt_48 : decode prog_14_method_30_code 48 = .ok (.getfield 33, 3) := by decide +kernel
theorem d_Md_tallAt_51 : decode prog_14_method_30_code 51 = .ok (.iconst 1, 1) := by decide +kernel
theorem d_Md_tallAt_52 : decode prog_14_method_30_code 52 = .ok (.aload_n 0, 1) := by decide +kernel
theorem d_Md_tallAt_53 : decode prog_14_method_30_code 53 = .ok (.getfield 11, 3) := by decide +kernel
theorem d_Md_tallAt_56 : decode prog_14_method_30_code 56 = .ok (.iload 4, 2) := by decide +kernel
theorem d_Md_tallAt_58 : decode prog_14_method_30_code 58 = .ok (.iconst 3, 1) := by decide +kernel
theorem d_Md_tallAt_59 : decode prog_14_method_30_code 59 = .ok (.iadd, 1) := by decide +kernel
theorem d_Md_tallAt_60 : decode prog_14_method_30_code 60 = .ok (.iaload, 1) := by decide +kernel
theorem d_Md_tallAt_61 : decode prog_14_method_30_code 61 = .ok (.iastore, 1) := by decide +kernel
theorem d_Md_tallAt_62 : decode prog_14_method_30_code 62 = .ok (.aload_n 0, 1) := by decide +kernel
theorem d_Md_tallAt_63 : decode prog_14_method_30_code 63 = .ok (.getfield 33, 3) := by decide +kernel
theorem d_Md_tallAt_66 : decode prog_14_method_30_code 66 = .ok (.iconst 2, 1) := by decide +kernel
theorem d_Md_tallAt_67 : decode prog_14_method_30_code 67 = .ok (.iload_n 2, 1) := by decide +kernel
theorem d_Md_tallAt_68 : decode prog_14_method_30_code 68 = .ok (.aload_n 0, 1) := by decide +kernel
theorem d_Md_tallAt_69 : decode prog_14_method_30_code 69 = .ok (.getfield 11, 3) := by decide +kernel
theorem d_Md_tallAt_72 : decode prog_14_method_30_code 72 = .ok (.iload 4, 2) := by decide +kernel
theorem d_Md_tallAt_74 : decode prog_14_method_30_code 74 = .ok (.iconst 1, 1) := by decide +kernel
theorem d_Md_tallAt_75 : decode prog_14_method_30_code 75 = .ok (.iadd, 1) := by decide +kernel
theorem d_Md_tallAt_76 : decode prog_14_method_30_code 76 = .ok (.iaload, 1) := by decide +kernel
theorem d_Md_tallAt_77 : decode prog_14_method_30_code 77 = .ok (.isub, 1) := by decide +kernel
theorem d_Md_tallAt_78 : decode prog_14_method_30_code 78 = .ok (.iastore, 1) := by decide +kernel
theorem d_Md_tallAt_79 : decode prog_14_method_30_code 79 = .ok (.aload_n 0, 1) := by decide +kernel
theorem d_Md_tallAt_80 : decode prog_14_method_30_code 80 = .ok (.getfield 33, 3) := by decide +kernel
theorem d_Md_tallAt_83 : decode prog_14_method_30_code 83 = .ok (.iconst 3, 1) := by decide +kernel
theorem d_Md_tallAt_84 : decode prog_14_method_30_code 84 = .ok (.iload_n 2, 1) := by decide +kernel
theorem d_Md_tallAt_85 : decode prog_14_method_30_code 85 = .ok (.iastore, 1) := by decide +kernel
theorem d_Md_tallAt_86 : decode prog_14_method_30_code 86 = .ok (.aload_n 0, 1) := by decide +kernel
theorem d_Md_tallAt_87 : decode prog_14_method_30_code 87 = .ok (.getfield 33, 3) := by decide +kernel
theorem d_Md_tallAt_90 : decode prog_14_method_30_code 90 = .ok (.iconst 4, 1) := by decide +kernel
theorem d_Md_tallAt_91 : decode prog_14_method_30_code 91 = .ok (.iload_n 1, 1) := by decide +kernel
theorem d_Md_tallAt_92 : decode prog_14_method_30_code 92 = .ok (.iastore, 1) := by decide +kernel
theorem d_Md_tallAt_93 : decode prog_14_method_30_code 93 = .ok (.aload_n 0, 1) := by decide +kernel
theorem d_Md_tallAt_94 : decode prog_14_method_30_code 94 = .ok (.getfield 33, 3) := by decide +kernel
theorem d_Md_tallAt_97 : decode prog_14_method_30_code 97 = .ok (.iconst 5, 1) := by decide +kernel
theorem d_Md_tallAt_98 : decode prog_14_method_30_code 98 = .ok (.iload_n 3, 1) := by decide +kernel
theorem d_Md_tallAt_99 : decode prog_14_method_30_code 99 = .ok (.iastore, 1) := by decide +kernel
theorem d_Md_tallAt_100 : decode prog_14_method_30_code 100 = .ok (.aload_n 0, 1) := by decide +kernel
theorem d_Md_tallAt_101 : decode prog_14_method_30_code 101 = .ok (.iconst 0, 1) := by decide +kernel
theorem d_Md_tallAt_102 : decode prog_14_method_30_code 102 = .ok (.aload_n 0, 1) := by decide +kernel
theorem d_Md_tallAt_103 : decode prog_14_method_30_code 103 = .ok (.getfield 77, 3) := by decide +kernel
theorem d_Md_tallAt_106 : decode prog_14_method_30_code 106 = .ok (.invokevirtual 192, 3) := by decide +kernel
theorem d_Md_tallAt_109 : decode prog_14_method_30_code 109 = .ok (.ireturn, 1) := by decide +kernel
theorem d_Md_tall_0 : decode prog_14_method_31_code 0 = .ok (.aload_n 0, 1) := by decide +kernel
theorem d_Md_tall_1 : decode prog_14_method_31_code 1 = .ok (.iload_n 1, 1) := by decide +kernel
theorem d_Md_tall_2 : decode prog_14_method_31_code 2 = .ok (.i2l, 1) := by decide +kernel
theorem d_Md_tall_3 : decode prog_14_method_31_code 3 = .ok (.invokevirtual 114, 3) := by decide +kernel
theorem d_Md_tall_6 : decode prog_14_method_31_code 6 = .ok (.ifCond .eq 31, 3) := by decide +kernel
theorem d_Md_tall_9 : decode prog_14_method_31_code 9 = .ok (.iload_n 2, 1) := by decide +kernel
theorem d_Md_tall_10 : decode prog_14_method_31_code 10 = .ok (.i2l, 1) := by decide +kernel
theorem d_Md_tall_11 : decode prog_14_method_31_code 11 = .ok (.lconst 0, 1) := by decide +kernel
theorem d_Md_tall_12 : decode prog_14_method_31_code 12 = .ok (.ldc2_w 195, 3) := by decide +kernel
theorem d_Md_tall_15 : decode prog_14_method_31_code 15 = .ok (.invokestatic 89, 3) := by decide +kernel
theorem d_Md_tall_18 : decode prog_14_method_31_code 18 = .ok (.ifCond .eq 19, 3) := by decide +kernel
theorem d_Md_tall_21 : decode prog_14_method_31_code 21 = .ok (.aload_n 0, 1) := by decide +kernel
theorem d_Md_tall_22 : decode prog_14_method_31_code 22 = .ok (.iload_n 1, 1) := by decide +kernel
theorem d_Md_tall_23 : decode prog_14_method_31_code 23 = .ok (.iload_n 2, 1) := by decide +kernel
theorem d_Md_tall_24 : decode prog_14_method_31_code 24 = .ok (.bipush 100, 2) := by decide +kernel
theorem d_Md_tall_26 : decode prog_14_method_31_code 26 = .ok (.idiv, 1) := by decide +kernel
theorem d_Md_tall_27 : decode prog_14_method_31_code 27 = .ok (.iload_n 2, 1) := by decide +kernel
theorem d_Md_tall_28 : decode prog_14_method_31_code 28 = .ok (.bipush 100, 2) := by decide +kernel
theorem d_Md_tall_30 : decode prog_14_method_31_code 30 = .ok (.irem, 1) := by decide +kernel
theorem d_Md_tall_31 : decode prog_14_method_31_code 31 = .ok (.invokevirtual 197, 3) := by decide +kernel
theorem d_Md_tall_34 : decode prog_14_method_31_code 34 = .ok (.goto 5, 3) := by decide +kernel
theorem d_Md_tall_37 : decode prog_14_method_31_code 37 = .ok (.ldc 201, 2) := by decide +kernel
theorem d_Md_tall_39 : decode prog_14_method_31_code 39 = .ok (.ireturn, 1) := by decide +kernel
theorem d_Md_begins1_0 : decode prog_14_method_32_code 0 = .ok (.aload_n 0, 1) := by decide +kernel
theorem d_Md_begins1_1 : decode prog_14_method_32_code 1 = .ok (.iconst 1, 1) := by decide +kernel
theorem d_Md_begins1_2 : decode prog_14_method_32_code 2 = .ok (.aload_n 0, 1) := by decide +kernel
