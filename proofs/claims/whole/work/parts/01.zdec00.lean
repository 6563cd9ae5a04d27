theorem d_Acts_init_0 : decode prog_2_method_1_code 0 = .ok (.aload_n 0, 1) := by decide +kernel
theorem d_Acts_init_1 : decode prog_2_method_1_code 1 = .ok (.invokespecial 3, 3) := by decide +kernel
theorem d_Acts_init_4 : decode prog_2_method_1_code 4 = .ok (.aload_n 0, 1) := by decide +kernel
theorem d_Acts_init_5 : decode prog_2_method_1_code 5 = .ok (.bipush 50, 2) := by decide +kernel
theorem d_Acts_init_7 : decode prog_2_method_1_code 7 = .ok (.newarray .int, 2) := by decide +kernel
theorem d_Acts_init_9 : decode prog_2_method_1_code 9 = .ok (.putfield 11, 3) := by decide +kernel
theorem d_Acts_init_12 : decode prog_2_method_1_code 12 = .ok (.aload_n 0, 1) := by decide +kernel
theorem d_Acts_init_13 : decode prog_2_method_1_code 13 = .ok (.iconst 0, 1) := by decide +kernel
theorem d_Acts_init_14 : decode prog_2_method_1_code 14 = .ok (.putfield 15, 3) := by decide +kernel
theorem d_Acts_init_17 : decode prog_2_method_1_code 17 = .ok (.aload_n 0, 1) := by decide +kernel
theorem d_Acts_init_18 : decode prog_2_method_1_code 18 = .ok (.bipush 24, 2) := by decide +kernel
theorem d_Acts_init_20 : decode prog_2_method_1_code 20 = .ok (.newarray .int, 2) := by decide +kernel
theorem d_Acts_init_22 : decode prog_2_method_1_code 22 = .ok (.putfield 19, 3) := by decide +kernel
theorem d_Acts_init_25 : decode prog_2_method_1_code 25 = .ok (.aload_n 0, 1) := by decide +kernel
theorem d_Acts_init_26 : decode prog_2_method_1_code 26 = .ok (.iconst 0, 1) := by decide +kernel
theorem d_Acts_init_27 : decode prog_2_method_1_code 27 = .ok (.putfield 22, 3) := by decide +kernel
theorem d_Acts_init_30 : decode prog_2_method_1_code 30 = .ok (.aload_n 0, 1) := by decide +kernel
theorem d_Acts_init_31 : decode prog_2_method_1_code 31 = .ok (.iconst 0, 1) := by decide +kernel
theorem d_Acts_init_32 : decode prog_2_method_1_code 32 = .ok (.putfield 25, 3) := by decide +kernel
theorem d_Acts_init_35 : decode prog_2_method_1_code 35 = .ok (.aload_n 0, 1) := by decide +kernel
theorem d_Acts_init_36 : decode prog_2_method_1_code 36 = .ok (.iconst 0, 1) := by decide +kernel
theorem d_Acts_init_37 : decode prog_2_method_1_code 37 = .ok (.putfield 28, 3) := by decide +kernel
theorem d_Acts_init_40 : decode prog_2_method_1_code 40 = .ok (.return_, 1) := by decide +kernel
theorem d_Acts_isKind_0 : decode prog_2_method_2_code 0 = .ok (.iload_n 0, 1) := by decide +kernel
theorem d_Acts_isKind_1 : decode prog_2_method_2_code 1 = .ok (.ifCond .lt 13, 3) := by decide +kernel
theorem d_Acts_isKind_4 : decode prog_2_method_2_code 4 = .ok (.iload_n 0, 1) := by decide +kernel
theorem d_Acts_isKind_5 : decode prog_2_method_2_code 5 = .ok (.bipush 8, 2) := by decide +kernel
theorem d_Acts_isKind_7 : decode prog_2_method_2_code 7 = .ok (.if_icmp .ge 7, 3) := by decide +kernel
theorem d_Acts_isKind_10 : decode prog_2_method_2_code 10 = .ok (.iconst 1, 1) := by decide +kernel
theorem d_Acts_isKind_11 : decode prog_2_method_2_code 11 = .ok (.goto 4, 3) := by decide +kernel
theorem d_Acts_isKind_14 : decode prog_2_method_2_code 14 = .ok (.iconst 0, 1) := by decide +kernel
theorem d_Acts_isKind_15 : decode prog_2_method_2_code 15 = .ok (.ireturn, 1) := by decide +kernel
theorem d_Acts_isUnder_0 : decode prog_2_method_3_code 0 = .ok (.iload_n 0, 1) := by decide +kernel
theorem d_Acts_isUnder_1 : decode prog_2_method_3_code 1 = .ok (.istore_n 2, 1) := by decide +kernel
theorem d_Acts_isUnder_2 : decode prog_2_method_3_code 2 = .ok (.iconst 0, 1) := by decide +kernel
theorem d_Acts_isUnder_3 : decode prog_2_method_3_code 3 = .ok (.istore_n 3, 1) := by decide +kernel
theorem d_Acts_isUnder_4 : decode prog_2_method_3_code 4 = .ok (.iload_n 3, 1) := by decide +kernel
theorem d_Acts_isUnder_5 : decode prog_2_method_3_code 5 = .ok (.bipush 8, 2) := by decide +kernel
theorem d_Acts_isUnder_7 : decode prog_2_method_3_code 7 = .ok (.if_icmp .ge 29, 3) := by decide +kernel
theorem d_Acts_isUnder_10 : decode prog_2_method_3_code 10 = .ok (.iload_n 2, 1) := by decide +kernel
theorem d_Acts_isUnder_11 : decode prog_2_method_3_code 11 = .ok (.invokestatic 31, 3) := by decide +kernel
theorem d_Acts_isUnder_14 : decode prog_2_method_3_code 14 = .ok (.ifCond .eq 22, 3) := by decide +kernel
theorem d_Acts_isUnder_17 : decode prog_2_method_3_code 17 = .ok (.iload_n 2, 1) := by decide +kernel
theorem d_Acts_isUnder_18 : decode prog_2_method_3_code 18 = .ok (.iload_n 1, 1) := by decide +kernel
theorem d_Acts_isUnder_19 : decode prog_2_method_3_code 19 = .ok (.if_icmp .ne 5, 3) := by decide +kernel
theorem d_Acts_isUnder_22 : decode prog_2_method_3_code 22 = .ok (.iconst 1, 1) := by decide +kernel
theorem d_Acts_isUnder_23 : decode prog_2_method_3_code 23 = .ok (.ireturn, 1) := by decide +kernel
theorem d_Acts_isUnder_24 : decode prog_2_method_3_code 24 = .ok (.getstatic 35, 3) := by decide +kernel
theorem d_Acts_isUnder_27 : decode prog_2_method_3_code 27 = .ok (.iload_n 2, 1) := by decide +kernel
theorem d_Acts_isUnder_28 : decode prog_2_method_3_code 28 = .ok (.iaload, 1) := by decide +kernel
theorem d_Acts_isUnder_29 : decode prog_2_method_3_code 29 = .ok (.istore_n 2, 1) := by decide +kernel
theorem d_Acts_isUnder_30 : decode prog_2_method_3_code 30 = .ok (.iinc 3 1, 3) := by decide +kernel
theorem d_Acts_isUnder_33 : decode prog_2_method_3_code 33 = .ok (.goto (-29), 3) := by decide +kernel
theorem d_Acts_isUnder_36 : decode prog_2_method_3_code 36 = .ok (.iconst 0, 1) := by decide +kernel
theorem d_Acts_isUnder_37 : decode prog_2_method_3_code 37 = .ok (.ireturn, 1) := by decide +kernel
theorem d_Acts_size_0 : decode prog_2_method_4_code 0 = .ok (.aload_n 0, 1) := by decide +kernel
theorem d_Acts_size_1 : decode prog_2_method_4_code 1 = .ok (.getfield 15, 3) := by decide +kernel
theorem d_Acts_size_4 : decode prog_2_method_4_code 4 = .ok (.ireturn, 1) := by decide +kernel
theorem d_Acts_has_0 : decode prog_2_method_5_code 0 = .ok (.iload_n 1, 1) := by decide +kernel
theorem d_Acts_has_1 : decode prog_2_method_5_code 1 = .ok (.ifCond .lt 15, 3) := by decide +kernel
theorem d_Acts_has_4 : decode prog_2_method_5_code 4 = .ok (.iload_n 1, 1) := by decide +kernel
theorem d_Acts_has_5 : decode prog_2_method_5_code 5 = .ok (.aload_n 0, 1) := by decide +kernel
theorem d_Acts_has_6 : decode prog_2_method_5_code 6 = .ok (.getfield 15, 3) := by decide +kernel
theorem d_Acts_has_9 : decode prog_2_method_5_code 9 = .ok (.if_icmp .ge 7, 3) := by decide +kernel
theorem d_Acts_has_12 : decode prog_2_method_5_code 12 = .ok (.iconst 1, 1) := by decide +kernel
theorem d_Acts_has_13 : decode prog_2_method_5_code 13 = .ok (.goto 4, 3) := by decide +kernel
theorem d_Acts_has_16 : decode prog_2_method_5_code 16 = .ok (.iconst 0, 1) := by decide +kernel
theorem d_Acts_has_17 : decode prog_2_method_5_code 17 = .ok (.ireturn, 1) := by decide +kernel
theorem d_Acts_kindOf_0 : decode prog_2_method_6_code 0 = .ok (.aload_n 0, 1) := by decide +kernel
theorem d_Acts_kindOf_1 : decode prog_2_method_6_code 1 = .ok (.iload_n 1, 1) := by decide +kernel
theorem d_Acts_kindOf_2 : decode prog_2_method_6_code 2 = .ok (.invokevirtual 38, 3) := by decide +kernel
theorem d_Acts_kindOf_5 : decode prog_2_method_6_code 5 = .ok (.ifCond .eq 12, 3) := by decide +kernel
theorem d_Acts_kindOf_8 : decode prog_2_method_6_code 8 = .ok (.aload_n 0, 1) := by decide +kernel
theorem d_Acts_kindOf_9 : decode prog_2_method_6_code 9 = .ok (.getfield 11, 3) := by decide +kernel
theorem d_Acts_kindOf_12 : decode prog_2_method_6_code 12 = .ok (.iload_n 1, 1) := by decide +kernel
theorem d_Acts_kindOf_13 : decode prog_2_method_6_code 13 = .ok (.iaload, 1) := by decide +kernel
theorem d_Acts_kindOf_14 : decode prog_2_method_6_code 14 = .ok (.goto 4, 3) := by decide +kernel
theorem d_Acts_kindOf_17 : decode prog_2_method_6_code 17 = .ok (.iconst (-1), 1) := by decide +kernel
theorem d_Acts_kindOf_18 : decode prog_2_method_6_code 18 = .ok (.ireturn, 1) := by decide +kernel
theorem d_Acts_joins_0 : decode prog_2_method_7_code 0 = .ok (.aload_n 0, 1) := by decide +kernel
theorem d_Acts_joins_1 : decode prog_2_method_7_code 1 = .ok (.getfield 15, 3) := by decide +kernel
theorem d_Acts_joins_4 : decode prog_2_method_7_code 4 = .ok (.bipush 50, 2) := by decide +kernel
theorem d_Acts_joins_6 : decode prog_2_method_7_code 6 = .ok (.if_icmp .lt 6, 3) := by decide +kernel
theorem d_Acts_joins_9 : decode prog_2_method_7_code 9 = .ok (.bipush (-3), 2) := by decide +kernel
theorem d_Acts_joins_11 : decode prog_2_method_7_code 11 = .ok (.ireturn, 1) := by decide +kernel
theorem d_Acts_joins_12 : decode prog_2_method_7_code 12 = .ok (.aload_n 0, 1) := by decide +kernel
theorem d_Acts_joins_13 : decode prog_2_method_7_code 13 = .ok (.getfield 11, 3) := by decide +kernel
theorem d_Acts_joins_16 : decode prog_2_method_7_code 16 = .ok (.aload_n 0, 1) := by decide +kernel
theorem d_Acts_joins_17 : decode prog_2_method_7_code 17 = .ok (.getfield 15, 3) := by decide +kernel
theorem d_Acts_joins_20 : decode prog_2_method_7_code 20 = .ok (.iload_n 1, 1) := by decide +kernel
theorem d_Acts_joins_21 : decode prog_2_method_7_code 21 = .ok (.iastore, 1) := by decide +kernel
theorem d_Acts_joins_22 : decode prog_2_method_7_code 22 = .ok (.aload_n 0, 1) := by decide +kernel
theorem d_Acts_joins_23 : decode prog_2_method_7_code 23 = .ok (.dup, 1) := by decide +kernel
theorem d_Acts_joins_24 : decode prog_2_method_7_code 24 = .ok (.getfield 15, 3) := by decide +kernel
theorem d_Acts_joins_27 : decode prog_2_method_7_code 27 = .ok (.iconst 1, 1) := by decide +kernel
theorem d_Acts_joins_28 : decode prog_2_method_7_code 28 = .ok (.iadd, 1) := by decide +kernel
theorem d_Acts_joins_29 : decode prog_2_method_7_code 29 = .ok (.putfield 15, 3) := by decide +kernel
theorem d_Acts_joins_32 : decode prog_2_method_7_code 32 = .ok (.aload_n 0, 1) := by decide +kernel
theorem d_Acts_joins_33 : decode prog_2_method_7_code 33 = .ok (.getfield 15, 3) := by decide +kernel
theorem d_Acts_joins_36 : decode prog_2_method_7_code 36 = .ok (.iconst 1, 1) := by decide +kernel
theorem d_Acts_joins_37 : decode prog_2_method_7_code 37 = .ok (.isub, 1) := by decide +kernel
theorem d_Acts_joins_38 : decode prog_2_method_7_code 38 = .ok (.ireturn, 1) := by decide +kernel
theorem d_Acts_ranLast_0 : decode prog_2_method_8_code 0 = .ok (.aload_n 0, 1) := by decide +kernel
theorem d_Acts_ranLast_1 : decode prog_2_method_8_code 1 = .ok (.getfield 22, 3) := by decide +kernel
theorem d_Acts_ranLast_4 : decode prog_2_method_8_code 4 = .ok (.ireturn, 1) := by decide +kernel
theorem d_Acts_traced_0 : decode prog_2_method_9_code 0 = .ok (.iload_n 1, 1) := by decide +kernel
theorem d_Acts_traced_1 : decode prog_2_method_9_code 1 = .ok (.ifCond .lt 26, 3) := by decide +kernel
theorem d_Acts_traced_4 : decode prog_2_method_9_code 4 = .ok (.iload_n 1, 1) := by decide +kernel
theorem d_Acts_traced_5 : decode prog_2_method_9_code 5 = .ok (.aload_n 0, 1) := by decide +kernel
theorem d_Acts_traced_6 : decode prog_2_method_9_code 6 = .ok (.getfield 22, 3) := by decide +kernel
theorem d_Acts_traced_9 : decode prog_2_method_9_code 9 = .ok (.if_icmp .ge 18, 3) := by decide +kernel
theorem d_Acts_traced_12 : decode prog_2_method_9_code 12 = .ok (.iload_n 1, 1) := by decide +kernel
theorem d_Acts_traced_13 : decode prog_2_method_9_code 13 = .ok (.bipush 24, 2) := by decide +kernel
theorem d_Acts_traced_15 : decode prog_2_method_9_code 15 = .ok (.if_icmp .ge 12, 3) := by decide +kernel
theorem d_Acts_traced_18 : decode prog_2_method_9_code 18 = .ok (.aload_n 0, 1) := by decide +kernel
theorem d_Acts_traced_19 : decode prog_2_method_9_code 19 = .ok (.getfield 19, 3) := by decide +kernel
theorem d_Acts_traced_22 : decode prog_2_method_9_code 22 = .ok (.iload_n 1, 1) := by decide +kernel
theorem d_Acts_traced_23 : decode prog_2_method_9_code 23 = .ok (.iaload, 1) := by decide +kernel
theorem d_Acts_traced_24 : decode prog_2_method_9_code 24 = .ok (.goto 4, 3) := by decide +kernel
theorem d_Acts_traced_27 : decode prog_2_method_9_code 27 = .ok (.iconst (-1), 1) := by decide +kernel
theorem d_Acts_traced_28 : decode prog_2_method_9_code 28 = .ok (.ireturn, 1) := by decide +kernel
theorem d_Acts_does_0 : decode prog_2_method_10_code 0 = .ok (.aload_n 0, 1) := by decide +kernel
theorem d_Acts_does_1 : decode prog_2_method_10_code 1 = .ok (.iconst 0, 1) := by decide +kernel
theorem d_Acts_does_2 : decode prog_2_method_10_code 2 = .ok (.putfield 22, 3) := by decide +kernel
theorem d_Acts_does_5 : decode prog_2_method_10_code 5 = .ok (.aload_n 0, 1) := by decide +kernel
theorem d_Acts_does_6 : decode prog_2_method_10_code 6 = .ok (.iload_n 1, 1) := by decide +kernel
theorem d_Acts_does_7 : decode prog_2_method_10_code 7 = .ok (.invokevirtual 38, 3) := by decide +kernel
theorem d_Acts_does_10 : decode prog_2_method_10_code 10 = .ok (.ifCond .eq 12, 3) := by decide +kernel
theorem d_Acts_does_13 : decode prog_2_method_10_code 13 = .ok (.iload_n 2, 1) := by decide +kernel
theorem d_Acts_does_14 : decode prog_2_method_10_code 14 = .ok (.ifCond .lt 8, 3) := by decide +kernel
theorem d_Acts_does_17 : decode prog_2_method_10_code 17 = .ok (.iload_n 2, 1) := by decide +kernel
theorem d_Acts_does_18 : decode prog_2_method_10_code 18 = .ok (.iconst 4, 1) := by decide +kernel
theorem d_Acts_does_19 : decode prog_2_method_10_code 19 = .ok (.if_icmp .lt 5, 3) := by decide +kernel
theorem d_Acts_does_22 : decode prog_2_method_10_code 22 = .ok (.iconst 0, 1) := by decide +kernel
theorem d_Acts_does_23 : decode prog_2_method_10_code 23 = .ok (.ireturn, 1) := by decide +kernel
theorem d_Acts_does_24 : decode prog_2_method_10_code 24 = .ok (.aload_n 0, 1) := by decide +kernel
theorem d_Acts_does_25 : decode prog_2_method_10_code 25 = .ok (.aload_n 0, 1) := by decide +kernel
theorem d_Acts_does_26 : decode prog_2_method_10_code 26 = .ok (.getfield 11, 3) := by decide +kernel
theorem d_Acts_does_29 : decode prog_2_method_10_code 29 = .ok (.iload_n 1, 1) := by decide +kernel
theorem d_Acts_does_30 : decode prog_2_method_10_code 30 = .ok (.iaload, 1) := by decide +kernel
theorem d_Acts_does_31 : decode prog_2_method_10_code 31 = .ok (.putfield 25, 3) := by decide +kernel
theorem d_Acts_does_34 : decode prog_2_method_10_code 34 = .ok (.aload_n 0, 1) := by decide +kernel
theorem d_Acts_does_35 : decode prog_2_method_10_code 35 = .ok (.iload_n 1, 1) := by decide +kernel
theorem d_Acts_does_36 : decode prog_2_method_10_code 36 = .ok (.putfield 28, 3) := by decide +kernel
theorem d_Acts_does_39 : decode prog_2_method_10_code 39 = .ok (.aload_n 0, 1) := by decide +kernel
theorem d_Acts_does_40 : decode prog_2_method_10_code 40 = .ok (.aload_n 0, 1) := by decide +kernel
theorem d_Acts_does_41 : decode prog_2_method_10_code 41 = .ok (.getfield 25, 3) := by decide +kernel
theorem d_Acts_does_44 : decode prog_2_method_10_code 44 = .ok (.iload_n 2, 1) := by decide +kernel
theorem d_Acts_does_45 : decode prog_2_method_10_code 45 = .ok (.iload_n 3, 1) := by decide +kernel
theorem d_Acts_does_46 : decode prog_2_method_10_code 46 = .ok (.iconst 0, 1) := by decide +kernel
theorem d_Acts_does_47 : decode prog_2_method_10_code 47 = .ok (.invokevirtual 41, 3) := by decide +kernel
theorem d_Acts_does_50 : decode prog_2_method_10_code 50 = .ok (.ireturn, 1) := by decide +kernel
theorem d_Acts_holder_0 : decode prog_2_method_11_code 0 = .ok (.iload_n 0, 1) := by decide +kernel
theorem d_Acts_holder_1 : decode prog_2_method_11_code 1 = .ok (.istore_n 2, 1) := by decide +kernel
theorem d_Acts_holder_2 : decode prog_2_method_11_code 2 = .ok (.iconst 0, 1) := by decide +kernel
theorem d_Acts_holder_3 : decode prog_2_method_11_code 3 = .ok (.istore_n 3, 1) := by decide +kernel
theorem d_Acts_holder_4 : decode prog_2_method_11_code 4 = .ok (.iload_n 3, 1) := by decide +kernel
theorem d_Acts_holder_5 : decode prog_2_method_11_code 5 = .ok (.bipush 8, 2) := by decide +kernel
theorem d_Acts_holder_7 : decode prog_2_method_11_code 7 = .ok (.if_icmp .ge 36, 3) := by decide +kernel
theorem d_Acts_holder_10 : decode prog_2_method_11_code 10 = .ok (.iload_n 2, 1) := by decide +kernel
theorem d_Acts_holder_11 : decode prog_2_method_11_code 11 = .ok (.invokestatic 31, 3) := by decide +kernel
theorem d_Acts_holder_14 : decode prog_2_method_11_code 14 = .ok (.ifCond .eq 29, 3) := by decide +kernel
theorem d_Acts_holder_17 : decode prog_2_method_11_code 17 = .ok (.getstatic 45, 3) := by decide +kernel
theorem d_Acts_holder_20 : decode prog_2_method_11_code 20 = .ok (.iload_n 2, 1) := by decide +kernel
theorem d_Acts_holder_21 : decode prog_2_method_11_code 21 = .ok (.iconst 4, 1) := by decide +kernel
theorem d_Acts_holder_22 : decode prog_2_method_11_code 22 = .ok (.imul, 1) := by decide +kernel
theorem d_Acts_holder_23 : decode prog_2_method_11_code 23 = .ok (.iload_n 1, 1) := by decide +kernel
theorem d_Acts_holder_24 : decode prog_2_method_11_code 24 = .ok (.iadd, 1) := by decide +kernel
theorem d_Acts_holder_25 : decode prog_2_method_11_code 25 = .ok (.iaload, 1) := by decide +kernel
theorem d_Acts_holder_26 : decode prog_2_method_11_code 26 = .ok (.ifCond .eq 5, 3) := by decide +kernel
theorem d_Acts_holder_29 : decode prog_2_method_11_code 29 = .ok (.iload_n 2, 1) := by decide +kernel
theorem d_Acts_holder_30 : decode prog_2_method_11_code 30 = .ok (.ireturn, 1) := by decide +kernel
theorem d_Acts_holder_31 : decode prog_2_method_11_code 31 = .ok (.getstatic 35, 3) := by decide +kernel
theorem d_Acts_holder_34 : decode prog_2_method_11_code 34 = .ok (.iload_n 2, 1) := by decide +kernel
theorem d_Acts_holder_35 : decode prog_2_method_11_code 35 = .ok (.iaload, 1) := by decide +kernel
theorem d_Acts_holder_36 : decode prog_2_method_11_code 36 = .ok (.istore_n 2, 1) := by decide +kernel
theorem d_Acts_holder_37 : decode prog_2_method_11_code 37 = .ok (.iinc 3 1, 3) := by decide +kernel
theorem d_Acts_holder_40 : decode prog_2_method_11_code 40 = .ok (.goto (-36), 3) := by decide +kernel
theorem d_Acts_holder_43 : decode prog_2_method_11_code 43 = .ok (.iconst 0, 1) := by decide +kernel
theorem d_Acts_holder_44 : decode prog_2_method_11_code 44 = .ok (.ireturn, 1) := by decide +kernel
theorem d_Acts_notes_0 : decode prog_2_method_12_code 0 = .ok (.aload_n 0, 1) := by decide +kernel
theorem d_Acts_notes_1 : decode prog_2_method_12_code 1 = .ok (.getfield 22, 3) := by decide +kernel
theorem d_Acts_notes_4 : decode prog_2_method_12_code 4 = .ok (.bipush 24, 2) := by decide +kernel
theorem d_Acts_notes_6 : decode prog_2_method_12_code 6 = .ok (.if_icmp .ge 13, 3) := by decide +kernel
theorem d_Acts_notes_9 : decode prog_2_method_12_code 9 = .ok (.aload_n 0, 1) := by decide +kernel
theorem d_Acts_notes_10 : decode prog_2_method_12_code 10 = .ok (.getfield 19, 3) := by decide +kernel
theorem d_Acts_notes_13 : decode prog_2_method_12_code 13 = .ok (.aload_n 0, 1) := by decide +kernel
theorem d_Acts_notes_14 : decode prog_2_method_12_code 14 = .ok (.getfield 22, 3) := by decide +kernel
theorem d_Acts_notes_17 : decode prog_2_method_12_code 17 = .ok (.iload_n 1, 1) := by decide +kernel
theorem d_Acts_notes_18 : decode prog_2_method_12_code 18 = .ok (.iastore, 1) := by decide +kernel
theorem d_Acts_notes_19 : decode prog_2_method_12_code 19 = .ok (.aload_n 0, 1) := by decide +kernel
theorem d_Acts_notes_20 : decode prog_2_method_12_code 20 = .ok (.dup, 1) := by decide +kernel
theorem d_Acts_notes_21 : decode prog_2_method_12_code 21 = .ok (.getfield 22, 3) := by decide +kernel
theorem d_Acts_notes_24 : decode prog_2_method_12_code 24 = .ok (.iconst 1, 1) := by decide +kernel
theorem d_Acts_notes_25 : decode prog_2_method_12_code 25 = .ok (.iadd, 1) := by decide +kernel
theorem d_Acts_notes_26 : decode prog_2_method_12_code 26 = .ok (.putfield 22, 3) := by decide +kernel
theorem d_Acts_notes_29 : decode prog_2_method_12_code 29 = .ok (.return_, 1) := by decide +kernel
theorem d_Acts_plays_0 : decode prog_2_method_13_code 0 = .ok (.iload 4, 2) := by decide +kernel
theorem d_Acts_plays_2 : decode prog_2_method_13_code 2 = .ok (.bipush 40, 2) := by decide +kernel
theorem d_Acts_plays_4 : decode prog_2_method_13_code 4 = .ok (.if_icmp .le 5, 3) := by decide +kernel
theorem d_Acts_plays_7 : decode prog_2_method_13_code 7 = .ok (.iconst 0, 1) := by decide +kernel
theorem d_Acts_plays_8 : decode prog_2_method_13_code 8 = .ok (.ireturn, 1) := by decide +kernel
theorem d_Acts_plays_9 : decode prog_2_method_13_code 9 = .ok (.iload_n 1, 1) := by decide +kernel
theorem d_Acts_plays_10 : decode prog_2_method_13_code 10 = .ok (.iload_n 2, 1) := by decide +kernel
theorem d_Acts_plays_11 : decode prog_2_method_13_code 11 = .ok (.invokestatic 48, 3) := by decide +kernel
theorem d_Acts_plays_14 : decode prog_2_method_13_code 14 = .ok (.istore 5, 2) := by decide +kernel
theorem d_Acts_plays_16 : decode prog_2_method_13_code 16 = .ok (.getstatic 35, 3) := by decide +kernel
theorem d_Acts_plays_19 : decode prog_2_method_13_code 19 = .ok (.iload 5, 2) := by decide +kernel
theorem d_Acts_plays_21 : decode prog_2_method_13_code 21 = .ok (.iaload, 1) := by decide +kernel
theorem d_Acts_plays_22 : decode prog_2_method_13_code 22 = .ok (.istore 6, 2) := by decide +kernel
theorem d_Acts_plays_24 : decode prog_2_method_13_code 24 = .ok (.getstatic 45, 3) := by decide +kernel
theorem d_Acts_plays_27 : decode prog_2_method_13_code 27 = .ok (.iload 5, 2) := by decide +kernel
theorem d_Acts_plays_29 : decode prog_2_method_13_code 29 = .ok (.iconst 4, 1) := by decide +kernel
theorem d_Acts_plays_30 : decode prog_2_method_13_code 30 = .ok (.imul, 1) := by decide +kernel
theorem d_Acts_plays_31 : decode prog_2_method_13_code 31 = .ok (.iload_n 2, 1) := by decide +kernel
theorem d_Acts_plays_32 : decode prog_2_method_13_code 32 = .ok (.iadd, 1) := by decide +kernel
theorem d_Acts_plays_33 : decode prog_2_method_13_code 33 = .ok (.iaload, 1) := by decide +kernel
theorem d_Acts_plays_34 : decode prog_2_method_13_code 34 = .ok (.istore 7, 2) := by decide +kernel
theorem d_Acts_plays_36 : decode prog_2_method_13_code 36 = .ok (.iload 4, 2) := by decide +kernel
theorem d_Acts_plays_38 : decode prog_2_method_13_code 38 = .ok (.iconst 1, 1) := by decide +kernel
theorem d_Acts_plays_39 : decode prog_2_method_13_code 39 = .ok (.iadd, 1) := by decide +kernel
theorem d_Acts_plays_40 : decode prog_2_method_13_code 40 = .ok (.istore 8, 2) := by decide +kernel
theorem d_Acts_plays_42 : decode prog_2_method_13_code 42 = .ok (.aload_n 0, 1) := by decide +kernel
theorem d_Acts_plays_43 : decode prog_2_method_13_code 43 = .ok (.iload 7, 2) := by decide +kernel
theorem d_Acts_plays_45 : decode prog_2_method_13_code 45 = .ok (.invokevirtual 52, 3) := by decide +kernel
theorem d_Acts_plays_48 : decode prog_2_method_13_code 48 = .ok (.iload 7, 2) := by decide +kernel
theorem d_Acts_plays_50 : decode prog_2_method_13_code 50 = .ok (.lookupswitch 307 #[(1, 114), (2, 121), (10, 147), (11, 162), (20, 169), (30, 182), (40, 194), (41, 207), (50, 220), (60, 244), (70, 257), (80, 270), (81, 294)], 114) := by decide +kernel
theorem d_Acts_plays_164 : decode prog_2_method_13_code 164 = .ok (.iload_n 3, 1) := by decide +kernel
theorem d_Acts_plays_165 : decode prog_2_method_13_code 165 = .ok (.aload_n 0, 1) := by decide +kernel
theorem d_Acts_plays_166 : decode prog_2_method_13_code 166 = .ok (.getfield 28, 3) := by decide +kernel
theorem d_Acts_plays_169 : decode prog_2_method_13_code 169 = .ok (.iadd, 1) := by decide +kernel
theorem d_Acts_plays_170 : decode prog_2_method_13_code 170 = .ok (.ireturn, 1) := by decide +kernel
theorem d_Acts_plays_171 : decode prog_2_method_13_code 171 = .ok (.aload_n 0, 1) := by decide +kernel
theorem d_Acts_plays_172 : decode prog_2_method_13_code 172 = .ok (.aload_n 0, 1) := by decide +kernel
theorem d_Acts_plays_173 : decode prog_2_method_13_code 173 = .ok (.getfield 25, 3) := by decide +kernel
theorem d_Acts_plays_176 : decode prog_2_method_13_code 176 = .ok (.iconst 1, 1) := by decide +kernel
theorem d_Acts_plays_177 : decode prog_2_method_13_code 177 = .ok (.iload_n 3, 1) := by decide +kernel
theorem d_Acts_plays_178 : decode prog_2_method_13_code 178 = .ok (.iload 8, 2) := by decide +kernel
theorem d_Acts_plays_180 : decode prog_2_method_13_code 180 = .ok (.invokevirtual 41, 3) := by decide +kernel
theorem d_Acts_plays_183 : decode prog_2_method_13_code 183 = .ok (.aload_n 0, 1) := by decide +kernel
theorem d_Acts_plays_184 : decode prog_2_method_13_code 184 = .ok (.aload_n 0, 1) := by decide +kernel
theorem d_Acts_plays_185 : decode prog_2_method_13_code 185 = .ok (.getfield 25, 3) := by decide +kernel
theorem d_Acts_plays_188 : decode prog_2_method_13_code 188 = .ok (.iconst 2, 1) := by decide +kernel
theorem d_Acts_plays_189 : decode prog_2_method_13_code 189 = .ok (.iconst 1, 1) := by decide +kernel
theorem d_Acts_plays_190 : decode prog_2_method_13_code 190 = .ok (.iload 8, 2) := by decide +kernel
theorem d_Acts_plays_192 : decode prog_2_method_13_code 192 = .ok (.invokevirtual 41, 3) := by decide +kernel
theorem d_Acts_plays_195 : decode prog_2_method_13_code 195 = .ok (.isub, 1) := by decide +kernel
theorem d_Acts_plays_196 : decode prog_2_method_13_code 196 = .ok (.ireturn, 1) := by decide +kernel
theorem d_Acts_plays_197 : decode prog_2_method_13_code 197 = .ok (.aload_n 0, 1) := by decide +kernel
theorem d_Acts_plays_198 : decode prog_2_method_13_code 198 = .ok (.aload_n 0, 1) := by decide +kernel
theorem d_Acts_plays_199 : decode prog_2_method_13_code 199 = .ok (.getfield 25, 3) := by decide +kernel
theorem d_Acts_plays_202 : decode prog_2_method_13_code 202 = .ok (.iconst 0, 1) := by decide +kernel
theorem d_Acts_plays_203 : decode prog_2_method_13_code 203 = .ok (.iload_n 3, 1) := by decide +kernel
theorem d_Acts_plays_204 : decode prog_2_method_13_code 204 = .ok (.iload 8, 2) := by decide +kernel
theorem d_Acts_plays_206 : decode prog_2_method_13_code 206 = .ok (.invokevirtual 41, 3) := by decide +kernel
theorem d_Acts_plays_209 : decode prog_2_method_13_code 209 = .ok (.iconst 2, 1) := by decide +kernel
theorem d_Acts_plays_210 : decode prog_2_method_13_code 210 = .ok (.imul, 1) := by decide +kernel
theorem d_Acts_plays_211 : decode prog_2_method_13_code 211 = .ok (.ireturn, 1) := by decide +kernel
theorem d_Acts_plays_212 : decode prog_2_method_13_code 212 = .ok (.iload_n 3, 1) := by decide +kernel
theorem d_Acts_plays_213 : decode prog_2_method_13_code 213 = .ok (.aload_n 0, 1) := by decide +kernel
theorem d_Acts_plays_214 : decode prog_2_method_13_code 214 = .ok (.getfield 28, 3) := by decide +kernel
theorem d_Acts_plays_217 : decode prog_2_method_13_code 217 = .ok (.ixor, 1) := by decide +kernel
theorem d_Acts_plays_218 : decode prog_2_method_13_code 218 = .ok (.ireturn, 1) := by decide +kernel
theorem d_Acts_plays_219 : decode prog_2_method_13_code 219 = .ok (.aload_n 0, 1) := by decide +kernel
theorem d_Acts_plays_220 : decode prog_2_method_13_code 220 = .ok (.iload 6, 2) := by decide +kernel
theorem d_Acts_plays_222 : decode prog_2_method_13_code 222 = .ok (.iconst 0, 1) := by decide +kernel
theorem d_Acts_plays_223 : decode prog_2_method_13_code 223 = .ok (.iload_n 3, 1) := by decide +kernel
theorem d_Acts_plays_224 : decode prog_2_method_13_code 224 = .ok (.iload 8, 2) := by decide +kernel
theorem d_Acts_plays_226 : decode prog_2_method_13_code 226 = .ok (.invokevirtual 41, 3) := by decide +kernel
theorem d_Acts_plays_229 : decode prog_2_method_13_code 229 = .ok (.iconst 3, 1) := by decide +kernel
theorem d_Acts_plays_230 : decode prog_2_method_13_code 230 = .ok (.iadd, 1) := by decide +kernel
theorem d_Acts_plays_231 : decode prog_2_method_13_code 231 = .ok (.ireturn, 1) := by decide +kernel
theorem d_Acts_plays_232 : decode prog_2_method_13_code 232 = .ok (.aload_n 0, 1) := by decide +kernel
theorem d_Acts_plays_233 : decode prog_2_method_13_code 233 = .ok (.iload 6, 2) := by decide +kernel
theorem d_Acts_plays_235 : decode prog_2_method_13_code 235 = .ok (.iconst 1, 1) := by decide +kernel
theorem d_Acts_plays_236 : decode prog_2_method_13_code 236 = .ok (.iload_n 3, 1) := by decide +kernel
theorem d_Acts_plays_237 : decode prog_2_method_13_code 237 = .ok (.iload 8, 2) := by decide +kernel
theorem d_Acts_plays_239 : decode prog_2_method_13_code 239 = .ok (.invokevirtual 41, 3) := by decide +kernel
theorem d_Acts_plays_242 : decode prog_2_method_13_code 242 = .ok (.ineg, 1) := by decide +kernel
theorem d_Acts_plays_243 : decode prog_2_method_13_code 243 = .ok (.ireturn, 1) := by decide +kernel
theorem d_Acts_plays_244 : decode prog_2_method_13_code 244 = .ok (.aload_n 0, 1) := by decide +kernel
theorem d_Acts_plays_245 : decode prog_2_method_13_code 245 = .ok (.iload 6, 2) := by decide +kernel
theorem d_Acts_plays_247 : decode prog_2_method_13_code 247 = .ok (.iconst 2, 1) := by decide +kernel
theorem d_Acts_plays_248 : decode prog_2_method_13_code 248 = .ok (.iload_n 3, 1) := by decide +kernel
theorem d_Acts_plays_249 : decode prog_2_method_13_code 249 = .ok (.iload 8, 2) := by decide +kernel
theorem d_Acts_plays_251 : decode prog_2_method_13_code 251 = .ok (.invokevirtual 41, 3) := by decide +kernel
theorem d_Acts_plays_254 : decode prog_2_method_13_code 254 = .ok (.iconst 3, 1) := by decide +kernel
theorem d_Acts_plays_255 : decode prog_2_method_13_code 255 = .ok (.imul, 1) := by decide +kernel
theorem d_Acts_plays_256 : decode prog_2_method_13_code 256 = .ok (.ireturn, 1) := by decide +kernel
theorem d_Acts_plays_257 : decode prog_2_method_13_code 257 = .ok (.aload_n 0, 1) := by decide +kernel
theorem d_Acts_plays_258 : decode prog_2_method_13_code 258 = .ok (.iload 6, 2) := by decide +kernel
theorem d_Acts_plays_260 : decode prog_2_method_13_code 260 = .ok (.iconst 1, 1) := by decide +kernel
theorem d_Acts_plays_261 : decode prog_2_method_13_code 261 = .ok (.iload_n 3, 1) := by decide +kernel
theorem d_Acts_plays_262 : decode prog_2_method_13_code 262 = .ok (.iconst 1, 1) := by decide +kernel
theorem d_Acts_plays_263 : decode prog_2_method_13_code 263 = .ok (.iadd, 1) := by decide +kernel
theorem d_Acts_plays_264 : decode prog_2_method_13_code 264 = .ok (.iload 8, 2) := by decide +kernel
theorem d_Acts_plays_266 : decode prog_2_method_13_code 266 = .ok (.invokevirtual 41, 3) := by decide +kernel
theorem d_Acts_plays_269 : decode prog_2_method_13_code 269 = .ok (.ireturn, 1) := by decide +kernel
theorem d_Acts_plays_270 : decode prog_2_method_13_code 270 = .ok (.aload_n 0, 1) := by decide +kernel
theorem d_Acts_plays_271 : decode prog_2_method_13_code 271 = .ok (.iload 6, 2) := by decide +kernel
theorem d_Acts_plays_273 : decode prog_2_method_13_code 273 = .ok (.iconst 2, 1) := by decide +kernel
theorem d_Acts_plays_274 : decode prog_2_method_13_code 274 = .ok (.iload_n 3, 1) := by decide +kernel
theorem d_Acts_plays_275 : decode prog_2_method_13_code 275 = .ok (.iload 8, 2) := by decide +kernel
theorem d_Acts_plays_277 : decode prog_2_method_13_code 277 = .ok (.invokevirtual 41, 3) := by decide +kernel
theorem d_Acts_plays_280 : decode prog_2_method_13_code 280 = .ok (.aload_n 0, 1) := by decide +kernel
theorem d_Acts_plays_281 : decode prog_2_method_13_code 281 = .ok (.aload_n 0, 1) := by decide +kernel
theorem d_Acts_plays_282 : decode prog_2_method_13_code 282 = .ok (.getfield 25, 3) := by decide +kernel
theorem d_Acts_plays_285 : decode prog_2_method_13_code 285 = .ok (.iconst 0, 1) := by decide +kernel
theorem d_Acts_plays_286 : decode prog_2_method_13_code 286 = .ok (.iconst 2, 1) := by decide +kernel
theorem d_Acts_plays_287 : decode prog_2_method_13_code 287 = .ok (.iload 8, 2) := by decide +kernel
theorem d_Acts_plays_289 : decode prog_2_method_13_code 289 = .ok (.invokevirtual 41, 3) := by decide +kernel
theorem d_Acts_plays_292 : decode prog_2_method_13_code 292 = .ok (.isub, 1) := by decide +kernel
theorem d_Acts_plays_293 : decode prog_2_method_13_code 293 = .ok (.ireturn, 1) := by decide +kernel
theorem d_Acts_plays_294 : decode prog_2_method_13_code 294 = .ok (.aload_n 0, 1) := by decide +kernel
theorem d_Acts_plays_295 : decode prog_2_method_13_code 295 = .ok (.iload 6, 2) := by decide +kernel
theorem d_Acts_plays_297 : decode prog_2_method_13_code 297 = .ok (.iconst 3, 1) := by decide +kernel
theorem d_Acts_plays_298 : decode prog_2_method_13_code 298 = .ok (.iload_n 3, 1) := by decide +kernel
theorem d_Acts_plays_299 : decode prog_2_method_13_code 299 = .ok (.iload 8, 2) := by decide +kernel
theorem d_Acts_plays_301 : decode prog_2_method_13_code 301 = .ok (.invokevirtual 41, 3) := by decide +kernel
theorem d_Acts_plays_304 : decode prog_2_method_13_code 304 = .ok (.iconst 5, 1) := by decide +kernel
theorem d_Acts_plays_305 : decode prog_2_method_13_code 305 = .ok (.ixor, 1) := by decide +kernel
theorem d_Acts_plays_306 : decode prog_2_method_13_code 306 = .ok (.ireturn, 1) := by decide +kernel
theorem d_Acts_plays_307 : decode prog_2_method_13_code 307 = .ok (.aload_n 0, 1) := by decide +kernel
theorem d_Acts_plays_308 : decode prog_2_method_13_code 308 = .ok (.iload 6, 2) := by decide +kernel
theorem d_Acts_plays_310 : decode prog_2_method_13_code 310 = .ok (.iconst 0, 1) := by decide +kernel
theorem d_Acts_plays_311 : decode prog_2_method_13_code 311 = .ok (.iload_n 3, 1) := by decide +kernel
theorem d_Acts_plays_312 : decode prog_2_method_13_code 312 = .ok (.iload 8, 2) := by decide +kernel
theorem d_Acts_plays_314 : decode prog_2_method_13_code 314 = .ok (.invokevirtual 41, 3) := by decide +kernel
theorem d_Acts_plays_317 : decode prog_2_method_13_code 317 = .ok (.iconst 2, 1) := by decide +kernel
theorem d_Acts_plays_318 : decode prog_2_method_13_code 318 = .ok (.imul, 1) := by decide +kernel
theorem d_Acts_plays_319 : decode prog_2_method_13_code 319 = .ok (.ireturn, 1) := by decide +kernel
theorem d_Acts_plays_320 : decode prog_2_method_13_code 320 = .ok (.aload_n 0, 1) := by decide +kernel
theorem d_Acts_plays_321 : decode prog_2_method_13_code 321 = .ok (.iload 6, 2) := by decide +kernel
theorem d_Acts_plays_323 : decode prog_2_method_13_code 323 = .ok (.iconst 1, 1) := by decide +kernel
theorem d_Acts_plays_324 : decode prog_2_method_13_code 324 = .ok (.iload_n 3, 1) := by decide +kernel
theorem d_Acts_plays_325 : decode prog_2_method_13_code 325 = .ok (.iload 8, 2) := by decide +kernel
theorem d_Acts_plays_327 : decode prog_2_method_13_code 327 = .ok (.invokevirtual 41, 3) := by decide +kernel
theorem d_Acts_plays_330 : decode prog_2_method_13_code 330 = .ok (.aload_n 0, 1) := by decide +kernel
theorem d_Acts_plays_331 : decode prog_2_method_13_code 331 = .ok (.aload_n 0, 1) := by decide +kernel
theorem d_Acts_plays_332 : decode prog_2_method_13_code 332 = .ok (.getfield 25, 3) := by decide +kernel
theorem d_Acts_plays_335 : decode prog_2_method_13_code 335 = .ok (.iconst 2, 1) := by decide +kernel
theorem d_Acts_plays_336 : decode prog_2_method_13_code 336 = .ok (.iconst 2, 1) := by decide +kernel
theorem d_Acts_plays_337 : decode prog_2_method_13_code 337 = .ok (.iload 8, 2) := by decide +kernel
theorem d_Acts_plays_339 : decode prog_2_method_13_code 339 = .ok (.invokevirtual 41, 3) := by decide +kernel
theorem d_Acts_plays_342 : decode prog_2_method_13_code 342 = .ok (.iadd, 1) := by decide +kernel
theorem d_Acts_plays_343 : decode prog_2_method_13_code 343 = .ok (.ireturn, 1) := by decide +kernel
theorem d_Acts_plays_344 : decode prog_2_method_13_code 344 = .ok (.aload_n 0, 1) := by decide +kernel
theorem d_Acts_plays_345 : decode prog_2_method_13_code 345 = .ok (.iload 6, 2) := by decide +kernel
theorem d_Acts_plays_347 : decode prog_2_method_13_code 347 = .ok (.iconst 3, 1) := by decide +kernel
theorem d_Acts_plays_348 : decode prog_2_method_13_code 348 = .ok (.iload_n 3, 1) := by decide +kernel
theorem d_Acts_plays_349 : decode prog_2_method_13_code 349 = .ok (.iload 8, 2) := by decide +kernel
theorem d_Acts_plays_351 : decode prog_2_method_13_code 351 = .ok (.invokevirtual 41, 3) := by decide +kernel
theorem d_Acts_plays_354 : decode prog_2_method_13_code 354 = .ok (.iconst 1, 1) := by decide +kernel
theorem d_Acts_plays_355 : decode prog_2_method_13_code 355 = .ok (.isub, 1) := by decide +kernel
theorem d_Acts_plays_356 : decode prog_2_method_13_code 356 = .ok (.ireturn, 1) := by decide +kernel
theorem d_Acts_plays_357 : decode prog_2_method_13_code 357 = .ok (.iconst 0, 1) := by decide +kernel
theorem d_Acts_plays_358 : decode prog_2_method_13_code 358 = .ok (.ireturn, 1) := by decide +kernel
theorem d_Changes_init_0 : decode prog_3_method_1_code 0 = .ok (.aload_n 0, 1) := by decide +kernel
theorem d_Changes_init_1 : decode prog_3_method_1_code 1 = .ok (.invokespecial 1, 3) := by decide +kernel
theorem d_Changes_init_4 : decode prog_3_method_1_code 4 = .ok (.aload_n 0, 1) := by decide +kernel
theorem d_Changes_init_5 : decode prog_3_method_1_code 5 = .ok (.bipush 40, 2) := by decide +kernel
theorem d_Changes_init_7 : decode prog_3_method_1_code 7 = .ok (.newarray .int, 2) := by decide +kernel
theorem d_Changes_init_9 : decode prog_3_method_1_code 9 = .ok (.putfield 9, 3) := by decide +kernel
theorem d_Changes_init_12 : decode prog_3_method_1_code 12 = .ok (.aload_n 0, 1) := by decide +kernel
theorem d_Changes_init_13 : decode prog_3_method_1_code 13 = .ok (.bipush 40, 2) := by decide +kernel
theorem d_Changes_init_15 : decode prog_3_method_1_code 15 = .ok (.newarray .int, 2) := by decide +kernel
theorem d_Changes_init_17 : decode prog_3_method_1_code 17 = .ok (.putfield 13, 3) := by decide +kernel
theorem d_Changes_init_20 : decode prog_3_method_1_code 20 = .ok (.aload_n 0, 1) := by decide +kernel
theorem d_Changes_init_21 : decode prog_3_method_1_code 21 = .ok (.bipush 40, 2) := by decide +kernel
theorem d_Changes_init_23 : decode prog_3_method_1_code 23 = .ok (.newarray .int, 2) := by decide +kernel
theorem d_Changes_init_25 : decode prog_3_method_1_code 25 = .ok (.putfield 16, 3) := by decide +kernel
theorem d_Changes_init_28 : decode prog_3_method_1_code 28 = .ok (.aload_n 0, 1) := by decide +kernel
theorem d_Changes_init_29 : decode prog_3_method_1_code 29 = .ok (.bipush 40, 2) := by decide +kernel
theorem d_Changes_init_31 : decode prog_3_method_1_code 31 = .ok (.newarray .int, 2) := by decide +kernel
theorem d_Changes_init_33 : decode prog_3_method_1_code 33 = .ok (.putfield 19, 3) := by decide +kernel
theorem d_Changes_init_36 : decode prog_3_method_1_code 36 = .ok (.aload_n 0, 1) := by decide +kernel
theorem d_Changes_init_37 : decode prog_3_method_1_code 37 = .ok (.iconst 0, 1) := by decide +kernel
theorem d_Changes_init_38 : decode prog_3_method_1_code 38 = .ok (.putfield 22, 3) := by decide +kernel
theorem d_Changes_init_41 : decode prog_3_method_1_code 41 = .ok (.aload_n 0, 1) := by decide +kernel
theorem d_Changes_init_42 : decode prog_3_method_1_code 42 = .ok (.iconst 0, 1) := by decide +kernel
theorem d_Changes_init_43 : decode prog_3_method_1_code 43 = .ok (.putfield 26, 3) := by decide +kernel
theorem d_Changes_init_46 : decode prog_3_method_1_code 46 = .ok (.aload_n 0, 1) := by decide +kernel
theorem d_Changes_init_47 : decode prog_3_method_1_code 47 = .ok (.aload_n 1, 1) := by decide +kernel
theorem d_Changes_init_48 : decode prog_3_method_1_code 48 = .ok (.putfield 29, 3) := by decide +kernel
theorem d_Changes_init_51 : decode prog_3_method_1_code 51 = .ok (.return_, 1) := by decide +kernel
theorem d_Changes_undoable_0 : decode prog_3_method_2_code 0 = .ok (.aload_n 0, 1) := by decide +kernel
theorem d_Changes_undoable_1 : decode prog_3_method_2_code 1 = .ok (.getfield 22, 3) := by decide +kernel
theorem d_Changes_undoable_4 : decode prog_3_method_2_code 4 = .ok (.ireturn, 1) := by decide +kernel
theorem d_Changes_redoable_0 : decode prog_3_method_3_code 0 = .ok (.aload_n 0, 1) := by decide +kernel
theorem d_Changes_redoable_1 : decode prog_3_method_3_code 1 = .ok (.getfield 26, 3) := by decide +kernel
theorem d_Changes_redoable_4 : decode prog_3_method_3_code 4 = .ok (.aload_n 0, 1) := by decide +kernel
theorem d_Changes_redoable_5 : decode prog_3_method_3_code 5 = .ok (.getfield 22, 3) := by decide +kernel
theorem d_Changes_redoable_8 : decode prog_3_method_3_code 8 = .ok (.isub, 1) := by decide +kernel
theorem d_Changes_redoable_9 : decode prog_3_method_3_code 9 = .ok (.ireturn, 1) := by decide +kernel
theorem d_Changes_happens_0 : decode prog_3_method_4_code 0 = .ok (.aload_n 0, 1) := by decide +kernel
theorem d_Changes_happens_1 : decode prog_3_method_4_code 1 = .ok (.getfield 22, 3) := by decide +kernel
theorem d_Changes_happens_4 : decode prog_3_method_4_code 4 = .ok (.bipush 40, 2) := by decide +kernel
theorem d_Changes_happens_6 : decode prog_3_method_4_code 6 = .ok (.if_icmp .lt 7, 3) := by decide +kernel
theorem d_Changes_happens_9 : decode prog_3_method_4_code 9 = .ok (.aload_n 0, 1) := by decide +kernel
theorem d_Changes_happens_10 : decode prog_3_method_4_code 10 = .ok (.invokevirtual 33, 3) := by decide +kernel
theorem d_Changes_happens_13 : decode prog_3_method_4_code 13 = .ok (.aload_n 0, 1) := by decide +kernel
theorem d_Changes_happens_14 : decode prog_3_method_4_code 14 = .ok (.getfield 9, 3) := by decide +kernel
theorem d_Changes_happens_17 : decode prog_3_method_4_code 17 = .ok (.aload_n 0, 1) := by decide +kernel
theorem d_Changes_happens_18 : decode prog_3_method_4_code 18 = .ok (.getfield 22, 3) := by decide +kernel
theorem d_Changes_happens_21 : decode prog_3_method_4_code 21 = .ok (.iload_n 1, 1) := by decide +kernel
theorem d_Changes_happens_22 : decode prog_3_method_4_code 22 = .ok (.iastore, 1) := by decide +kernel
theorem d_Changes_happens_23 : decode prog_3_method_4_code 23 = .ok (.aload_n 0, 1) := by decide +kernel
theorem d_Changes_happens_24 : decode prog_3_method_4_code 24 = .ok (.getfield 13, 3) := by decide +kernel
theorem d_Changes_happens_27 : decode prog_3_method_4_code 27 = .ok (.aload_n 0, 1) := by decide +kernel
theorem d_Changes_happens_28 : decode prog_3_method_4_code 28 = .ok (.getfield 22, 3) := by decide +kernel
theorem d_Changes_happens_31 : decode prog_3_method_4_code 31 = .ok (.iload_n 2, 1) := by decide +kernel
theorem d_Changes_happens_32 : decode prog_3_method_4_code 32 = .ok (.iastore, 1) := by decide +kernel
theorem d_Changes_happens_33 : decode prog_3_method_4_code 33 = .ok (.aload_n 0, 1) := by decide +kernel
theorem d_Changes_happens_34 : decode prog_3_method_4_code 34 = .ok (.getfield 16, 3) := by decide +kernel
theorem d_Changes_happens_37 : decode prog_3_method_4_code 37 = .ok (.aload_n 0, 1) := by decide +kernel
theorem d_Changes_happens_38 : decode prog_3_method_4_code 38 = .ok (.getfield 22, 3) := by decide +kernel
theorem d_Changes_happens_41 : decode prog_3_method_4_code 41 = .ok (.aload_n 0, 1) := by decide +kernel
theorem d_Changes_happens_42 : decode prog_3_method_4_code 42 = .ok (.getfield 29, 3) := by decide +kernel
theorem d_Changes_happens_45 : decode prog_3_method_4_code 45 = .ok (.iload_n 2, 1) := by decide +kernel
theorem d_Changes_happens_46 : decode prog_3_method_4_code 46 = .ok (.iload_n 1, 1) := by decide +kernel
theorem d_Changes_happens_47 : decode prog_3_method_4_code 47 = .ok (.invokevirtual 36, 3) := by decide +kernel
theorem d_Changes_happens_50 : decode prog_3_method_4_code 50 = .ok (.iastore, 1) := by decide +kernel
theorem d_Changes_happens_51 : decode prog_3_method_4_code 51 = .ok (.aload_n 0, 1) := by decide +kernel
theorem d_Changes_happens_52 : decode prog_3_method_4_code 52 = .ok (.getfield 19, 3) := by decide +kernel
theorem d_Changes_happens_55 : decode prog_3_method_4_code 55 = .ok (.aload_n 0, 1) := by decide +kernel
theorem d_Changes_happens_56 : decode prog_3_method_4_code 56 = .ok (.getfield 22, 3) := by decide +kernel
theorem d_Changes_happens_59 : decode prog_3_method_4_code 59 = .ok (.iload_n 3, 1) := by decide +kernel
theorem d_Changes_happens_60 : decode prog_3_method_4_code 60 = .ok (.iastore, 1) := by decide +kernel
theorem d_Changes_happens_61 : decode prog_3_method_4_code 61 = .ok (.aload_n 0, 1) := by decide +kernel
theorem d_Changes_happens_62 : decode prog_3_method_4_code 62 = .ok (.dup, 1) := by decide +kernel
theorem d_Changes_happens_63 : decode prog_3_method_4_code 63 = .ok (.getfield 22, 3) := by decide +kernel
theorem d_Changes_happens_66 : decode prog_3_method_4_code 66 = .ok (.iconst 1, 1) := by decide +kernel
theorem d_Changes_happens_67 : decode prog_3_method_4_code 67 = .ok (.iadd, 1) := by decide +kernel
theorem d_Changes_happens_68 : decode prog_3_method_4_code 68 = .ok (.putfield 22, 3) := by decide +kernel
theorem d_Changes_happens_71 : decode prog_3_method_4_code 71 = .ok (.aload_n 0, 1) := by decide +kernel
theorem d_Changes_happens_72 : decode prog_3_method_4_code 72 = .ok (.aload_n 0, 1) := by decide +kernel
theorem d_Changes_happens_73 : decode prog_3_method_4_code 73 = .ok (.getfield 22, 3) := by decide +kernel
theorem d_Changes_happens_76 : decode prog_3_method_4_code 76 = .ok (.putfield 26, 3) := by decide +kernel
theorem d_Changes_happens_79 : decode prog_3_method_4_code 79 = .ok (.aload_n 0, 1) := by decide +kernel
theorem d_Changes_happens_80 : decode prog_3_method_4_code 80 = .ok (.getfield 29, 3) := by decide +kernel
theorem d_Changes_happens_83 : decode prog_3_method_4_code 83 = .ok (.iload_n 2, 1) := by decide +kernel
theorem d_Changes_happens_84 : decode prog_3_method_4_code 84 = .ok (.iload_n 1, 1) := by decide +kernel
theorem d_Changes_happens_85 : decode prog_3_method_4_code 85 = .ok (.iload_n 3, 1) := by decide +kernel
theorem d_Changes_happens_86 : decode prog_3_method_4_code 86 = .ok (.invokevirtual 42, 3) := by decide +kernel
theorem d_Changes_happens_89 : decode prog_3_method_4_code 89 = .ok (.return_, 1) := by decide +kernel
theorem d_Changes_forgetsOldest_0 : decode prog_3_method_5_code 0 = .ok (.aload_n 0, 1) := by decide +kernel
theorem d_Changes_forgetsOldest_1 : decode prog_3_method_5_code 1 = .ok (.getfield 9, 3) := by decide +kernel
theorem d_Changes_forgetsOldest_4 : decode prog_3_method_5_code 4 = .ok (.iconst 1, 1) := by decide +kernel
theorem d_Changes_forgetsOldest_5 : decode prog_3_method_5_code 5 = .ok (.aload_n 0, 1) := by decide +kernel
theorem d_Changes_forgetsOldest_6 : decode prog_3_method_5_code 6 = .ok (.getfield 9, 3) := by decide +kernel
theorem d_Changes_forgetsOldest_9 : decode prog_3_method_5_code 9 = .ok (.iconst 0, 1) := by decide +kernel
theorem d_Changes_forgetsOldest_10 : decode prog_3_method_5_code 10 = .ok (.bipush 39, 2) := by decide +kernel
theorem d_Changes_forgetsOldest_12 : decode prog_3_method_5_code 12 = .ok (.invokestatic 46, 3) := by decide +kernel
theorem d_Changes_forgetsOldest_15 : decode prog_3_method_5_code 15 = .ok (.aload_n 0, 1) := by decide +kernel
theorem d_Changes_forgetsOldest_16 : decode prog_3_method_5_code 16 = .ok (.getfield 13, 3) := by decide +kernel
theorem d_Changes_forgetsOldest_19 : decode prog_3_method_5_code 19 = .ok (.iconst 1, 1) := by decide +kernel
theorem d_Changes_forgetsOldest_20 : decode prog_3_method_5_code 20 = .ok (.aload_n 0, 1) := by decide +kernel
theorem d_Changes_forgetsOldest_21 : decode prog_3_method_5_code 21 = .ok (.getfield 13, 3) := by decide +kernel
theorem d_Changes_forgetsOldest_24 : decode prog_3_method_5_code 24 = .ok (.iconst 0, 1) := by decide +kernel
theorem d_Changes_forgetsOldest_25 : decode prog_3_method_5_code 25 = .ok (.bipush 39, 2) := by decide +kernel
theorem d_Changes_forgetsOldest_27 : decode prog_3_method_5_code 27 = .ok (.invokestatic 46, 3) := by decide +kernel
theorem d_Changes_forgetsOldest_30 : decode prog_3_method_5_code 30 = .ok (.aload_n 0, 1) := by decide +kernel
theorem d_Changes_forgetsOldest_31 : decode prog_3_method_5_code 31 = .ok (.getfield 16, 3) := by decide +kernel
theorem d_Changes_forgetsOldest_34 : decode prog_3_method_5_code 34 = .ok (.iconst 1, 1) := by decide +kernel
theorem d_Changes_forgetsOldest_35 : decode prog_3_method_5_code 35 = .ok (.aload_n 0, 1) := by decide +kernel
theorem d_Changes_forgetsOldest_36 : decode prog_3_method_5_code 36 = .ok (.getfield 16, 3) := by decide +kernel
theorem d_Changes_forgetsOldest_39 : decode prog_3_method_5_code 39 = .ok (.iconst 0, 1) := by decide +kernel
theorem d_Changes_forgetsOldest_40 : decode prog_3_method_5_code 40 = .ok (.bipush 39, 2) := by decide +kernel
theorem d_Changes_forgetsOldest_42 : decode prog_3_method_5_code 42 = .ok (.invokestatic 46, 3) := by decide +kernel
theorem d_Changes_forgetsOldest_45 : decode prog_3_method_5_code 45 = .ok (.aload_n 0, 1) := by decide +kernel
theorem d_Changes_forgetsOldest_46 : decode prog_3_method_5_code 46 = .ok (.getfield 19, 3) := by decide +kernel
theorem d_Changes_forgetsOldest_49 : decode prog_3_method_5_code 49 = .ok (.iconst 1, 1) := by decide +kernel
theorem d_Changes_forgetsOldest_50 : decode prog_3_method_5_code 50 = .ok (.aload_n 0, 1) := by decide +kernel
theorem d_Changes_forgetsOldest_51 : decode prog_3_method_5_code 51 = .ok (.getfield 19, 3) := by decide +kernel
theorem d_Changes_forgetsOldest_54 : decode prog_3_method_5_code 54 = .ok (.iconst 0, 1) := by decide +kernel
theorem d_Changes_forgetsOldest_55 : decode prog_3_method_5_code 55 = .ok (.bipush 39, 2) := by decide +kernel
theorem d_Changes_forgetsOldest_57 : decode prog_3_method_5_code 57 = .ok (.invokestatic 46, 3) := by decide +kernel
theorem d_Changes_forgetsOldest_60 : decode prog_3_method_5_code 60 = .ok (.aload_n 0, 1) := by decide +kernel
theorem d_Changes_forgetsOldest_61 : decode prog_3_method_5_code 61 = .ok (.bipush 39, 2) := by decide +kernel
theorem d_Changes_forgetsOldest_63 : decode prog_3_method_5_code 63 = .ok (.putfield 22, 3) := by decide +kernel
theorem d_Changes_forgetsOldest_66 : decode prog_3_method_5_code 66 = .ok (.return_, 1) := by decide +kernel
theorem d_Changes_undoes_0 : decode prog_3_method_6_code 0 = .ok (.aload_n 0, 1) := by decide +kernel
theorem d_Changes_undoes_1 : decode prog_3_method_6_code 1 = .ok (.getfield 22, 3) := by decide +kernel
theorem d_Changes_undoes_4 : decode prog_3_method_6_code 4 = .ok (.ifCond .le 47, 3) := by decide +kernel
theorem d_Changes_undoes_7 : decode prog_3_method_6_code 7 = .ok (.aload_n 0, 1) := by decide +kernel
theorem d_Changes_undoes_8 : decode prog_3_method_6_code 8 = .ok (.dup, 1) := by decide +kernel
theorem d_Changes_undoes_9 : decode prog_3_method_6_code 9 = .ok (.getfield 22, 3) := by decide +kernel
theorem d_Changes_undoes_12 : decode prog_3_method_6_code 12 = .ok (.iconst 1, 1) := by decide +kernel
theorem d_Changes_undoes_13 : decode prog_3_method_6_code 13 = .ok (.isub, 1) := by decide +kernel
theorem d_Changes_undoes_14 : decode prog_3_method_6_code 14 = .ok (.putfield 22, 3) := by decide +kernel
theorem d_Changes_undoes_17 : decode prog_3_method_6_code 17 = .ok (.aload_n 0, 1) := by decide +kernel
theorem d_Changes_undoes_18 : decode prog_3_method_6_code 18 = .ok (.getfield 29, 3) := by decide +kernel
theorem d_Changes_undoes_21 : decode prog_3_method_6_code 21 = .ok (.aload_n 0, 1) := by decide +kernel
theorem d_Changes_undoes_22 : decode prog_3_method_6_code 22 = .ok (.getfield 13, 3) := by decide +kernel
theorem d_Changes_undoes_25 : decode prog_3_method_6_code 25 = .ok (.aload_n 0, 1) := by decide +kernel
theorem d_Changes_undoes_26 : decode prog_3_method_6_code 26 = .ok (.getfield 22, 3) := by decide +kernel
theorem d_Changes_undoes_29 : decode prog_3_method_6_code 29 = .ok (.iaload, 1) := by decide +kernel
theorem d_Changes_undoes_30 : decode prog_3_method_6_code 30 = .ok (.aload_n 0, 1) := by decide +kernel
theorem d_Changes_undoes_31 : decode prog_3_method_6_code 31 = .ok (.getfield 9, 3) := by decide +kernel
theorem d_Changes_undoes_34 : decode prog_3_method_6_code 34 = .ok (.aload_n 0, 1) := by decide +kernel
theorem d_Changes_undoes_35 : decode prog_3_method_6_code 35 = .ok (.getfield 22, 3) := by decide +kernel
theorem d_Changes_undoes_38 : decode prog_3_method_6_code 38 = .ok (.iaload, 1) := by decide +kernel
theorem d_Changes_undoes_39 : decode prog_3_method_6_code 39 = .ok (.aload_n 0, 1) := by decide +kernel
theorem d_Changes_undoes_40 : decode prog_3_method_6_code 40 = .ok (.getfield 16, 3) := by decide +kernel
theorem d_Changes_undoes_43 : decode prog_3_method_6_code 43 = .ok (.aload_n 0, 1) := by decide +kernel
theorem d_Changes_undoes_44 : decode prog_3_method_6_code 44 = .ok (.getfield 22, 3) := by decide +kernel
theorem d_Changes_undoes_47 : decode prog_3_method_6_code 47 = .ok (.iaload, 1) := by decide +kernel
theorem d_Changes_undoes_48 : decode prog_3_method_6_code 48 = .ok (.invokevirtual 42, 3) := by decide +kernel
theorem d_Changes_undoes_51 : decode prog_3_method_6_code 51 = .ok (.aload_n 0, 1) := by decide +kernel
theorem d_Changes_undoes_52 : decode prog_3_method_6_code 52 = .ok (.getfield 22, 3) := by decide +kernel
theorem d_Changes_undoes_55 : decode prog_3_method_6_code 55 = .ok (.ireturn, 1) := by decide +kernel
theorem d_Changes_redoes_0 : decode prog_3_method_7_code 0 = .ok (.aload_n 0, 1) := by decide +kernel
theorem d_Changes_redoes_1 : decode prog_3_method_7_code 1 = .ok (.getfield 22, 3) := by decide +kernel
theorem d_Changes_redoes_4 : decode prog_3_method_7_code 4 = .ok (.aload_n 0, 1) := by decide +kernel
theorem d_Changes_redoes_5 : decode prog_3_method_7_code 5 = .ok (.getfield 26, 3) := by decide +kernel
theorem d_Changes_redoes_8 : decode prog_3_method_7_code 8 = .ok (.if_icmp .ge 47, 3) := by decide +kernel
theorem d_Changes_redoes_11 : decode prog_3_method_7_code 11 = .ok (.aload_n 0, 1) := by decide +kernel
theorem d_Changes_redoes_12 : decode prog_3_method_7_code 12 = .ok (.getfield 29, 3) := by decide +kernel
theorem d_Changes_redoes_15 : decode prog_3_method_7_code 15 = .ok (.aload_n 0, 1) := by decide +kernel
theorem d_Changes_redoes_16 : decode prog_3_method_7_code 16 = .ok (.getfield 13, 3) := by decide +kernel
theorem d_Changes_redoes_19 : decode prog_3_method_7_code 19 = .ok (.aload_n 0, 1) := by decide +kernel
theorem d_Changes_redoes_20 : decode prog_3_method_7_code 20 = .ok (.getfield 22, 3) := by decide +kernel
theorem d_Changes_redoes_23 : decode prog_3_method_7_code 23 = .ok (.iaload, 1) := by decide +kernel
theorem d_Changes_redoes_24 : decode prog_3_method_7_code 24 = .ok (.aload_n 0, 1) := by decide +kernel
theorem d_Changes_redoes_25 : decode prog_3_method_7_code 25 = .ok (.getfield 9, 3) := by decide +kernel
theorem d_Changes_redoes_28 : decode prog_3_method_7_code 28 = .ok (.aload_n 0, 1) := by decide +kernel
theorem d_Changes_redoes_29 : decode prog_3_method_7_code 29 = .ok (.getfield 22, 3) := by decide +kernel
theorem d_Changes_redoes_32 : decode prog_3_method_7_code 32 = .ok (.iaload, 1) := by decide +kernel
theorem d_Changes_redoes_33 : decode prog_3_method_7_code 33 = .ok (.aload_n 0, 1) := by decide +kernel
theorem d_Changes_redoes_34 : decode prog_3_method_7_code 34 = .ok (.getfield 19, 3) := by decide +kernel
theorem d_Changes_redoes_37 : decode prog_3_method_7_code 37 = .ok (.aload_n 0, 1) := by decide +kernel
theorem d_Changes_redoes_38 : decode prog_3_method_7_code 38 = .ok (.getfield 22, 3) := by decide +kernel
theorem d_Changes_redoes_41 : decode prog_3_method_7_code 41 = .ok (.iaload, 1) := by decide +kernel
theorem d_Changes_redoes_42 : decode prog_3_method_7_code 42 = .ok (.invokevirtual 42, 3) := by decide +kernel
theorem d_Changes_redoes_45 : decode prog_3_method_7_code 45 = .ok (.aload_n 0, 1) := by decide +kernel
theorem d_Changes_redoes_46 : decode prog_3_method_7_code 46 = .ok (.dup, 1) := by decide +kernel
theorem d_Changes_redoes_47 : decode prog_3_method_7_code 47 = .ok (.getfield 22, 3) := by decide +kernel
theorem d_Changes_redoes_50 : decode prog_3_method_7_code 50 = .ok (.iconst 1, 1) := by decide +kernel
theorem d_Changes_redoes_51 : decode prog_3_method_7_code 51 = .ok (.iadd, 1) := by decide +kernel
theorem d_Changes_redoes_52 : decode prog_3_method_7_code 52 = .ok (.putfield 22, 3) := by decide +kernel
theorem d_Changes_redoes_55 : decode prog_3_method_7_code 55 = .ok (.aload_n 0, 1) := by decide +kernel
theorem d_Changes_redoes_56 : decode prog_3_method_7_code 56 = .ok (.getfield 26, 3) := by decide +kernel
theorem d_Changes_redoes_59 : decode prog_3_method_7_code 59 = .ok (.aload_n 0, 1) := by decide +kernel
theorem d_Changes_redoes_60 : decode prog_3_method_7_code 60 = .ok (.getfield 22, 3) := by decide +kernel
theorem d_Changes_redoes_63 : decode prog_3_method_7_code 63 = .ok (.isub, 1) := by decide +kernel
theorem d_Changes_redoes_64 : decode prog_3_method_7_code 64 = .ok (.ireturn, 1) := by decide +kernel
theorem d_Crowd_init_0 : decode prog_4_method_1_code 0 = .ok (.aload_n 0, 1) := by decide +kernel
theorem d_Crowd_init_1 : decode prog_4_method_1_code 1 = .ok (.invokespecial 5, 3) := by decide +kernel
theorem d_Crowd_init_4 : decode prog_4_method_1_code 4 = .ok (.aload_n 0, 1) := by decide +kernel
theorem d_Crowd_init_5 : decode prog_4_method_1_code 5 = .ok (.bipush 75, 2) := by decide +kernel
theorem d_Crowd_init_7 : decode prog_4_method_1_code 7 = .ok (.newarray .int, 2) := by decide +kernel
theorem d_Crowd_init_9 : decode prog_4_method_1_code 9 = .ok (.putfield 11, 3) := by decide +kernel
theorem d_Crowd_init_12 : decode prog_4_method_1_code 12 = .ok (.aload_n 0, 1) := by decide +kernel
theorem d_Crowd_init_13 : decode prog_4_method_1_code 13 = .ok (.iconst 0, 1) := by decide +kernel
theorem d_Crowd_init_14 : decode prog_4_method_1_code 14 = .ok (.putfield 15, 3) := by decide +kernel
theorem d_Crowd_init_17 : decode prog_4_method_1_code 17 = .ok (.aload_n 0, 1) := by decide +kernel
theorem d_Crowd_init_18 : decode prog_4_method_1_code 18 = .ok (.bipush 100, 2) := by decide +kernel
theorem d_Crowd_init_20 : decode prog_4_method_1_code 20 = .ok (.newarray .int, 2) := by decide +kernel
theorem d_Crowd_init_22 : decode prog_4_method_1_code 22 = .ok (.putfield 19, 3) := by decide +kernel
theorem d_Crowd_init_25 : decode prog_4_method_1_code 25 = .ok (.aload_n 0, 1) := by decide +kernel
theorem d_Crowd_init_26 : decode prog_4_method_1_code 26 = .ok (.iconst 1, 1) := by decide +kernel
theorem d_Crowd_init_27 : decode prog_4_method_1_code 27 = .ok (.putfield 22, 3) := by decide +kernel
theorem d_Crowd_init_30 : decode prog_4_method_1_code 30 = .ok (.return_, 1) := by decide +kernel
theorem d_Crowd_isNumber_0 : decode prog_4_method_2_code 0 = .ok (.iload_n 0, 1) := by decide +kernel
theorem d_Crowd_isNumber_1 : decode prog_4_method_2_code 1 = .ok (.ifCond .lt 12, 3) := by decide +kernel
theorem d_Crowd_isNumber_4 : decode prog_4_method_2_code 4 = .ok (.iload_n 0, 1) := by decide +kernel
theorem d_Crowd_isNumber_5 : decode prog_4_method_2_code 5 = .ok (.iconst 5, 1) := by decide +kernel
theorem d_Crowd_isNumber_6 : decode prog_4_method_2_code 6 = .ok (.if_icmp .ge 7, 3) := by decide +kernel
theorem d_Crowd_isNumber_9 : decode prog_4_method_2_code 9 = .ok (.iconst 1, 1) := by decide +kernel
theorem d_Crowd_isNumber_10 : decode prog_4_method_2_code 10 = .ok (.goto 4, 3) := by decide +kernel
theorem d_Crowd_isNumber_13 : decode prog_4_method_2_code 13 = .ok (.iconst 0, 1) := by decide +kernel
theorem d_Crowd_isNumber_14 : decode prog_4_method_2_code 14 = .ok (.ireturn, 1) := by decide +kernel
theorem d_Crowd_fits_0 : decode prog_4_method_3_code 0 = .ok (.iload_n 0, 1) := by decide +kernel
theorem d_Crowd_fits_1 : decode prog_4_method_3_code 1 = .ok (.invokestatic 26, 3) := by decide +kernel
theorem d_Crowd_fits_4 : decode prog_4_method_3_code 4 = .ok (.ifCond .eq 25, 3) := by decide +kernel
theorem d_Crowd_fits_7 : decode prog_4_method_3_code 7 = .ok (.iload_n 1, 1) := by decide +kernel
theorem d_Crowd_fits_8 : decode prog_4_method_3_code 8 = .ok (.getstatic 30, 3) := by decide +kernel
theorem d_Crowd_fits_11 : decode prog_4_method_3_code 11 = .ok (.iload_n 0, 1) := by decide +kernel
theorem d_Crowd_fits_12 : decode prog_4_method_3_code 12 = .ok (.iaload, 1) := by decide +kernel
theorem d_Crowd_fits_13 : decode prog_4_method_3_code 13 = .ok (.if_icmp .lt 16, 3) := by decide +kernel
theorem d_Crowd_fits_16 : decode prog_4_method_3_code 16 = .ok (.iload_n 1, 1) := by decide +kernel
theorem d_Crowd_fits_17 : decode prog_4_method_3_code 17 = .ok (.getstatic 33, 3) := by decide +kernel
theorem d_Crowd_fits_20 : decode prog_4_method_3_code 20 = .ok (.iload_n 0, 1) := by decide +kernel
theorem d_Crowd_fits_21 : decode prog_4_method_3_code 21 = .ok (.iaload, 1) := by decide +kernel
theorem d_Crowd_fits_22 : decode prog_4_method_3_code 22 = .ok (.if_icmp .gt 7, 3) := by decide +kernel
theorem d_Crowd_fits_25 : decode prog_4_method_3_code 25 = .ok (.iconst 1, 1) := by decide +kernel
theorem d_Crowd_fits_26 : decode prog_4_method_3_code 26 = .ok (.goto 4, 3) := by decide +kernel
theorem d_Crowd_fits_29 : decode prog_4_method_3_code 29 = .ok (.iconst 0, 1) := by decide +kernel
theorem d_Crowd_fits_30 : decode prog_4_method_3_code 30 = .ok (.ireturn, 1) := by decide +kernel
theorem d_Crowd_size_0 : decode prog_4_method_4_code 0 = .ok (.aload_n 0, 1) := by decide +kernel
theorem d_Crowd_size_1 : decode prog_4_method_4_code 1 = .ok (.getfield 15, 3) := by decide +kernel
theorem d_Crowd_size_4 : decode prog_4_method_4_code 4 = .ok (.ireturn, 1) := by decide +kernel
theorem d_Crowd_has_0 : decode prog_4_method_5_code 0 = .ok (.iload_n 1, 1) := by decide +kernel
theorem d_Crowd_has_1 : decode prog_4_method_5_code 1 = .ok (.ifCond .lt 15, 3) := by decide +kernel
theorem d_Crowd_has_4 : decode prog_4_method_5_code 4 = .ok (.iload_n 1, 1) := by decide +kernel
theorem d_Crowd_has_5 : decode prog_4_method_5_code 5 = .ok (.aload_n 0, 1) := by decide +kernel
theorem d_Crowd_has_6 : decode prog_4_method_5_code 6 = .ok (.getfield 15, 3) := by decide +kernel
theorem d_Crowd_has_9 : decode prog_4_method_5_code 9 = .ok (.if_icmp .ge 7, 3) := by decide +kernel
theorem d_Crowd_has_12 : decode prog_4_method_5_code 12 = .ok (.iconst 1, 1) := by decide +kernel
theorem d_Crowd_has_13 : decode prog_4_method_5_code 13 = .ok (.goto 4, 3) := by decide +kernel
theorem d_Crowd_has_16 : decode prog_4_method_5_code 16 = .ok (.iconst 0, 1) := by decide +kernel
theorem d_Crowd_has_17 : decode prog_4_method_5_code 17 = .ok (.ireturn, 1) := by decide +kernel
theorem d_Crowd_everyone_0 : decode prog_4_method_6_code 0 = .ok (.iconst 1, 1) := by decide +kernel
theorem d_Crowd_everyone_1 : decode prog_4_method_6_code 1 = .ok (.aload_n 0, 1) := by decide +kernel
theorem d_Crowd_everyone_2 : decode prog_4_method_6_code 2 = .ok (.getfield 15, 3) := by decide +kernel
theorem d_Crowd_everyone_5 : decode prog_4_method_6_code 5 = .ok (.ishl, 1) := by decide +kernel
theorem d_Crowd_everyone_6 : decode prog_4_method_6_code 6 = .ok (.iconst 1, 1) := by decide +kernel
theorem d_Crowd_everyone_7 : decode prog_4_method_6_code 7 = .ok (.isub, 1) := by decide +kernel
theorem d_Crowd_everyone_8 : decode prog_4_method_6_code 8 = .ok (.ireturn, 1) := by decide +kernel
theorem d_Crowd_number_0 : decode prog_4_method_7_code 0 = .ok (.iload_n 1, 1) := by decide +kernel
theorem d_Crowd_number_1 : decode prog_4_method_7_code 1 = .ok (.ifCond .lt 34, 3) := by decide +kernel
theorem d_Crowd_number_4 : decode prog_4_method_7_code 4 = .ok (.iload_n 1, 1) := by decide +kernel
theorem d_Crowd_number_5 : decode prog_4_method_7_code 5 = .ok (.iconst 5, 1) := by decide +kernel
theorem d_Crowd_number_6 : decode prog_4_method_7_code 6 = .ok (.if_icmp .ge 29, 3) := by decide +kernel
theorem d_Crowd_number_9 : decode prog_4_method_7_code 9 = .ok (.iload_n 2, 1) := by decide +kernel
theorem d_Crowd_number_10 : decode prog_4_method_7_code 10 = .ok (.ifCond .lt 25, 3) := by decide +kernel
theorem d_Crowd_number_13 : decode prog_4_method_7_code 13 = .ok (.iload_n 2, 1) := by decide +kernel
theorem d_Crowd_number_14 : decode prog_4_method_7_code 14 = .ok (.aload_n 0, 1) := by decide +kernel
theorem d_Crowd_number_15 : decode prog_4_method_7_code 15 = .ok (.getfield 15, 3) := by decide +kernel
theorem d_Crowd_number_18 : decode prog_4_method_7_code 18 = .ok (.if_icmp .ge 17, 3) := by decide +kernel
theorem d_Crowd_number_21 : decode prog_4_method_7_code 21 = .ok (.aload_n 0, 1) := by decide +kernel
theorem d_Crowd_number_22 : decode prog_4_method_7_code 22 = .ok (.getfield 11, 3) := by decide +kernel
theorem d_Crowd_number_25 : decode prog_4_method_7_code 25 = .ok (.iload_n 1, 1) := by decide +kernel
theorem d_Crowd_number_26 : decode prog_4_method_7_code 26 = .ok (.bipush 15, 2) := by decide +kernel
theorem d_Crowd_number_28 : decode prog_4_method_7_code 28 = .ok (.imul, 1) := by decide +kernel
theorem d_Crowd_number_29 : decode prog_4_method_7_code 29 = .ok (.iload_n 2, 1) := by decide +kernel
theorem d_Crowd_number_30 : decode prog_4_method_7_code 30 = .ok (.iadd, 1) := by decide +kernel
theorem d_Crowd_number_31 : decode prog_4_method_7_code 31 = .ok (.iaload, 1) := by decide +kernel
theorem d_Crowd_number_32 : decode prog_4_method_7_code 32 = .ok (.goto 4, 3) := by decide +kernel
theorem d_Crowd_number_35 : decode prog_4_method_7_code 35 = .ok (.iconst 0, 1) := by decide +kernel
theorem d_Crowd_number_36 : decode prog_4_method_7_code 36 = .ok (.ireturn, 1) := by decide +kernel
theorem d_Crowd_setNumber_0 : decode prog_4_method_8_code 0 = .ok (.iload_n 1, 1) := by decide +kernel
theorem d_Crowd_setNumber_1 : decode prog_4_method_8_code 1 = .ok (.ifCond .lt 20, 3) := by decide +kernel
theorem d_Crowd_setNumber_4 : decode prog_4_method_8_code 4 = .ok (.iload_n 1, 1) := by decide +kernel
theorem d_Crowd_setNumber_5 : decode prog_4_method_8_code 5 = .ok (.iconst 5, 1) := by decide +kernel
theorem d_Crowd_setNumber_6 : decode prog_4_method_8_code 6 = .ok (.if_icmp .ge 15, 3) := by decide +kernel
theorem d_Crowd_setNumber_9 : decode prog_4_method_8_code 9 = .ok (.iload_n 2, 1) := by decide +kernel
theorem d_Crowd_setNumber_10 : decode prog_4_method_8_code 10 = .ok (.ifCond .lt 11, 3) := by decide +kernel
theorem d_Crowd_setNumber_13 : decode prog_4_method_8_code 13 = .ok (.iload_n 2, 1) := by decide +kernel
theorem d_Crowd_setNumber_14 : decode prog_4_method_8_code 14 = .ok (.aload_n 0, 1) := by decide +kernel
theorem d_Crowd_setNumber_15 : decode prog_4_method_8_code 15 = .ok (.getfield 15, 3) := by decide +kernel
theorem d_Crowd_setNumber_18 : decode prog_4_method_8_code 18 = .ok (.if_icmp .lt 4, 3) := by decide +kernel
theorem d_Crowd_setNumber_21 : decode prog_4_method_8_code 21 = .ok (.return_, 1) := by decide +kernel
theorem d_Crowd_setNumber_22 : decode prog_4_method_8_code 22 = .ok (.aload_n 0, 1) := by decide +kernel
theorem d_Crowd_setNumber_23 : decode prog_4_method_8_code 23 = .ok (.getfield 11, 3) := by decide +kernel
theorem d_Crowd_setNumber_26 : decode prog_4_method_8_code 26 = .ok (.iload_n 1, 1) := by decide +kernel
theorem d_Crowd_setNumber_27 : decode prog_4_method_8_code 27 = .ok (.bipush 15, 2) := by decide +kernel
theorem d_Crowd_setNumber_29 : decode prog_4_method_8_code 29 = .ok (.imul, 1) := by decide +kernel
theorem d_Crowd_setNumber_30 : decode prog_4_method_8_code 30 = .ok (.iload_n 2, 1) := by decide +kernel
theorem d_Crowd_setNumber_31 : decode prog_4_method_8_code 31 = .ok (.iadd, 1) := by decide +kernel
theorem d_Crowd_setNumber_32 : decode prog_4_method_8_code 32 = .ok (.iload_n 3, 1) := by decide +kernel
theorem d_Crowd_setNumber_33 : decode prog_4_method_8_code 33 = .ok (.iastore, 1) := by decide +kernel
theorem d_Crowd_setNumber_34 : decode prog_4_method_8_code 34 = .ok (.iload_n 1, 1) := by decide +kernel
theorem d_Crowd_setNumber_35 : decode prog_4_method_8_code 35 = .ok (.iconst 1, 1) := by decide +kernel
theorem d_Crowd_setNumber_36 : decode prog_4_method_8_code 36 = .ok (.if_icmp .eq 8, 3) := by decide +kernel
theorem d_Crowd_setNumber_39 : decode prog_4_method_8_code 39 = .ok (.iload_n 1, 1) := by decide +kernel
theorem d_Crowd_setNumber_40 : decode prog_4_method_8_code 40 = .ok (.iconst 2, 1) := by decide +kernel
theorem d_Crowd_setNumber_41 : decode prog_4_method_8_code 41 = .ok (.if_icmp .ne 8, 3) := by decide +kernel
theorem d_Crowd_setNumber_44 : decode prog_4_method_8_code 44 = .ok (.aload_n 0, 1) := by decide +kernel
theorem d_Crowd_setNumber_45 : decode prog_4_method_8_code 45 = .ok (.iconst 1, 1) := by decide +kernel
theorem d_Crowd_setNumber_46 : decode prog_4_method_8_code 46 = .ok (.putfield 22, 3) := by decide +kernel
theorem d_Crowd_setNumber_49 : decode prog_4_method_8_code 49 = .ok (.return_, 1) := by decide +kernel
theorem d_Crowd_joins_0 : decode prog_4_method_9_code 0 = .ok (.aload_n 0, 1) := by decide +kernel
theorem d_Crowd_joins_1 : decode prog_4_method_9_code 1 = .ok (.getfield 15, 3) := by decide +kernel
theorem d_Crowd_joins_4 : decode prog_4_method_9_code 4 = .ok (.bipush 15, 2) := by decide +kernel
theorem d_Crowd_joins_6 : decode prog_4_method_9_code 6 = .ok (.if_icmp .lt 5, 3) := by decide +kernel
theorem d_Crowd_joins_9 : decode prog_4_method_9_code 9 = .ok (.iconst (-1), 1) := by decide +kernel
theorem d_Crowd_joins_10 : decode prog_4_method_9_code 10 = .ok (.ireturn, 1) := by decide +kernel
theorem d_Crowd_joins_11 : decode prog_4_method_9_code 11 = .ok (.aload_n 0, 1) := by decide +kernel
theorem d_Crowd_joins_12 : decode prog_4_method_9_code 12 = .ok (.getfield 15, 3) := by decide +kernel
theorem d_Crowd_joins_15 : decode prog_4_method_9_code 15 = .ok (.istore 4, 2) := by decide +kernel
theorem d_Crowd_joins_17 : decode prog_4_method_9_code 17 = .ok (.aload_n 0, 1) := by decide +kernel
theorem d_Crowd_joins_18 : decode prog_4_method_9_code 18 = .ok (.dup, 1) := by decide +kernel
theorem d_Crowd_joins_19 : decode prog_4_method_9_code 19 = .ok (.getfield 15, 3) := by decide +kernel
theorem d_Crowd_joins_22 : decode prog_4_method_9_code 22 = .ok (.iconst 1, 1) := by decide +kernel
theorem d_Crowd_joins_23 : decode prog_4_method_9_code 23 = .ok (.iadd, 1) := by decide +kernel
theorem d_Crowd_joins_24 : decode prog_4_method_9_code 24 = .ok (.putfield 15, 3) := by decide +kernel
theorem d_Crowd_joins_27 : decode prog_4_method_9_code 27 = .ok (.aload_n 0, 1) := by decide +kernel
theorem d_Crowd_joins_28 : decode prog_4_method_9_code 28 = .ok (.getfield 11, 3) := by decide +kernel
theorem d_Crowd_joins_31 : decode prog_4_method_9_code 31 = .ok (.iconst 0, 1) := by decide +kernel
theorem d_Crowd_joins_32 : decode prog_4_method_9_code 32 = .ok (.iload 4, 2) := by decide +kernel
theorem d_Crowd_joins_34 : decode prog_4_method_9_code 34 = .ok (.iadd, 1) := by decide +kernel
theorem d_Crowd_joins_35 : decode prog_4_method_9_code 35 = .ok (.iload_n 1, 1) := by decide +kernel
theorem d_Crowd_joins_36 : decode prog_4_method_9_code 36 = .ok (.iastore, 1) := by decide +kernel
theorem d_Crowd_joins_37 : decode prog_4_method_9_code 37 = .ok (.aload_n 0, 1) := by decide +kernel
theorem d_Crowd_joins_38 : decode prog_4_method_9_code 38 = .ok (.getfield 11, 3) := by decide +kernel
theorem d_Crowd_joins_41 : decode prog_4_method_9_code 41 = .ok (.bipush 15, 2) := by decide +kernel
theorem d_Crowd_joins_43 : decode prog_4_method_9_code 43 = .ok (.iload 4, 2) := by decide +kernel
theorem d_Crowd_joins_45 : decode prog_4_method_9_code 45 = .ok (.iadd, 1) := by decide +kernel
theorem d_Crowd_joins_46 : decode prog_4_method_9_code 46 = .ok (.iload_n 2, 1) := by decide +kernel
theorem d_Crowd_joins_47 : decode prog_4_method_9_code 47 = .ok (.iastore, 1) := by decide +kernel
theorem d_Crowd_joins_48 : decode prog_4_method_9_code 48 = .ok (.aload_n 0, 1) := by decide +kernel
theorem d_Crowd_joins_49 : decode prog_4_method_9_code 49 = .ok (.getfield 11, 3) := by decide +kernel
theorem d_Crowd_joins_52 : decode prog_4_method_9_code 52 = .ok (.bipush 30, 2) := by decide +kernel
theorem d_Crowd_joins_54 : decode prog_4_method_9_code 54 = .ok (.iload 4, 2) := by decide +kernel
theorem d_Crowd_joins_56 : decode prog_4_method_9_code 56 = .ok (.iadd, 1) := by decide +kernel
theorem d_Crowd_joins_57 : decode prog_4_method_9_code 57 = .ok (.iload_n 3, 1) := by decide +kernel
theorem d_Crowd_joins_58 : decode prog_4_method_9_code 58 = .ok (.iastore, 1) := by decide +kernel
theorem d_Crowd_joins_59 : decode prog_4_method_9_code 59 = .ok (.aload_n 0, 1) := by decide +kernel
theorem d_Crowd_joins_60 : decode prog_4_method_9_code 60 = .ok (.getfield 11, 3) := by decide +kernel
theorem d_Crowd_joins_63 : decode prog_4_method_9_code 63 = .ok (.bipush 45, 2) := by decide +kernel
theorem d_Crowd_joins_65 : decode prog_4_method_9_code 65 = .ok (.iload 4, 2) := by decide +kernel
theorem d_Crowd_joins_67 : decode prog_4_method_9_code 67 = .ok (.iadd, 1) := by decide +kernel
theorem d_Crowd_joins_68 : decode prog_4_method_9_code 68 = .ok (.iconst 0, 1) := by decide +kernel
theorem d_Crowd_joins_69 : decode prog_4_method_9_code 69 = .ok (.iastore, 1) := by decide +kernel
theorem d_Crowd_joins_70 : decode prog_4_method_9_code 70 = .ok (.aload_n 0, 1) := by decide +kernel
theorem d_Crowd_joins_71 : decode prog_4_method_9_code 71 = .ok (.getfield 11, 3) := by decide +kernel
theorem d_Crowd_joins_74 : decode prog_4_method_9_code 74 = .ok (.bipush 60, 2) := by decide +kernel
theorem d_Crowd_joins_76 : decode prog_4_method_9_code 76 = .ok (.iload 4, 2) := by decide +kernel
theorem d_Crowd_joins_78 : decode prog_4_method_9_code 78 = .ok (.iadd, 1) := by decide +kernel
theorem d_Crowd_joins_79 : decode prog_4_method_9_code 79 = .ok (.iconst 5, 1) := by decide +kernel
theorem d_Crowd_joins_80 : decode prog_4_method_9_code 80 = .ok (.iastore, 1) := by decide +kernel
theorem d_Crowd_joins_81 : decode prog_4_method_9_code 81 = .ok (.aload_n 0, 1) := by decide +kernel
theorem d_Crowd_joins_82 : decode prog_4_method_9_code 82 = .ok (.iconst 1, 1) := by decide +kernel
theorem d_Crowd_joins_83 : decode prog_4_method_9_code 83 = .ok (.putfield 22, 3) := by decide +kernel
theorem d_Crowd_joins_86 : decode prog_4_method_9_code 86 = .ok (.iload 4, 2) := by decide +kernel
theorem d_Crowd_joins_88 : decode prog_4_method_9_code 88 = .ok (.ireturn, 1) := by decide +kernel
theorem d_Crowd_shrinks_0 : decode prog_4_method_10_code 0 = .ok (.iload_n 1, 1) := by decide +kernel
theorem d_Crowd_shrinks_1 : decode prog_4_method_10_code 1 = .ok (.ifCond .lt 11, 3) := by decide +kernel
theorem d_Crowd_shrinks_4 : decode prog_4_method_10_code 4 = .ok (.iload_n 1, 1) := by decide +kernel
theorem d_Crowd_shrinks_5 : decode prog_4_method_10_code 5 = .ok (.aload_n 0, 1) := by decide +kernel
theorem d_Crowd_shrinks_6 : decode prog_4_method_10_code 6 = .ok (.getfield 15, 3) := by decide +kernel
theorem d_Crowd_shrinks_9 : decode prog_4_method_10_code 9 = .ok (.if_icmp .lt 4, 3) := by decide +kernel
theorem d_Crowd_shrinks_12 : decode prog_4_method_10_code 12 = .ok (.return_, 1) := by decide +kernel
theorem d_Crowd_shrinks_13 : decode prog_4_method_10_code 13 = .ok (.aload_n 0, 1) := by decide +kernel
theorem d_Crowd_shrinks_14 : decode prog_4_method_10_code 14 = .ok (.iload_n 1, 1) := by decide +kernel
theorem d_Crowd_shrinks_15 : decode prog_4_method_10_code 15 = .ok (.putfield 15, 3) := by decide +kernel
theorem d_Crowd_shrinks_18 : decode prog_4_method_10_code 18 = .ok (.aload_n 0, 1) := by decide +kernel
theorem d_Crowd_shrinks_19 : decode prog_4_method_10_code 19 = .ok (.iconst 1, 1) := by decide +kernel
theorem d_Crowd_shrinks_20 : decode prog_4_method_10_code 20 = .ok (.putfield 22, 3) := by decide +kernel
theorem d_Crowd_shrinks_23 : decode prog_4_method_10_code 23 = .ok (.return_, 1) := by decide +kernel
theorem d_Crowd_becomes_0 : decode prog_4_method_11_code 0 = .ok (.aload_n 1, 1) := by decide +kernel
theorem d_Crowd_becomes_1 : decode prog_4_method_11_code 1 = .ok (.getfield 11, 3) := by decide +kernel
theorem d_Crowd_becomes_4 : decode prog_4_method_11_code 4 = .ok (.iconst 0, 1) := by decide +kernel
theorem d_Crowd_becomes_5 : decode prog_4_method_11_code 5 = .ok (.aload_n 0, 1) := by decide +kernel
theorem d_Crowd_becomes_6 : decode prog_4_method_11_code 6 = .ok (.getfield 11, 3) := by decide +kernel
theorem d_Crowd_becomes_9 : decode prog_4_method_11_code 9 = .ok (.iconst 0, 1) := by decide +kernel
theorem d_Crowd_becomes_10 : decode prog_4_method_11_code 10 = .ok (.aload_n 0, 1) := by decide +kernel
theorem d_Crowd_becomes_11 : decode prog_4_method_11_code 11 = .ok (.getfield 11, 3) := by decide +kernel
theorem d_Crowd_becomes_14 : decode prog_4_method_11_code 14 = .ok (.arraylength, 1) := by decide +kernel
theorem d_Crowd_becomes_15 : decode prog_4_method_11_code 15 = .ok (.invokestatic 36, 3) := by decide +kernel
theorem d_Crowd_becomes_18 : decode prog_4_method_11_code 18 = .ok (.aload_n 0, 1) := by decide +kernel
theorem d_Crowd_becomes_19 : decode prog_4_method_11_code 19 = .ok (.aload_n 1, 1) := by decide +kernel
theorem d_Crowd_becomes_20 : decode prog_4_method_11_code 20 = .ok (.getfield 15, 3) := by decide +kernel
theorem d_Crowd_becomes_23 : decode prog_4_method_11_code 23 = .ok (.putfield 15, 3) := by decide +kernel
theorem d_Crowd_becomes_26 : decode prog_4_method_11_code 26 = .ok (.aload_n 0, 1) := by decide +kernel
theorem d_Crowd_becomes_27 : decode prog_4_method_11_code 27 = .ok (.iconst 1, 1) := by decide +kernel
theorem d_Crowd_becomes_28 : decode prog_4_method_11_code 28 = .ok (.putfield 22, 3) := by decide +kernel
theorem d_Crowd_becomes_31 : decode prog_4_method_11_code 31 = .ok (.return_, 1) := by decide +kernel
theorem d_Crowd_waiting_0 : decode prog_4_method_12_code 0 = .ok (.iload_n 1, 1) := by decide +kernel
theorem d_Crowd_waiting_1 : decode prog_4_method_12_code 1 = .ok (.ifCond .lt 9, 3) := by decide +kernel
theorem d_Crowd_waiting_4 : decode prog_4_method_12_code 4 = .ok (.iload_n 1, 1) := by decide +kernel
theorem d_Crowd_waiting_5 : decode prog_4_method_12_code 5 = .ok (.bipush 100, 2) := by decide +kernel
theorem d_Crowd_waiting_7 : decode prog_4_method_12_code 7 = .ok (.if_icmp .lt 11, 3) := by decide +kernel
theorem d_Crowd_waiting_10 : decode prog_4_method_12_code 10 = .ok (.aload_n 0, 1) := by decide +kernel
theorem d_Crowd_waiting_11 : decode prog_4_method_12_code 11 = .ok (.iload_n 1, 1) := by decide +kernel
theorem d_Crowd_waiting_12 : decode prog_4_method_12_code 12 = .ok (.invokevirtual 42, 3) := by decide +kernel
theorem d_Crowd_waiting_15 : decode prog_4_method_12_code 15 = .ok (.iload_n 2, 1) := by decide +kernel
theorem d_Crowd_waiting_16 : decode prog_4_method_12_code 16 = .ok (.iand, 1) := by decide +kernel
theorem d_Crowd_waiting_17 : decode prog_4_method_12_code 17 = .ok (.ireturn, 1) := by decide +kernel
theorem d_Crowd_waiting_18 : decode prog_4_method_12_code 18 = .ok (.aload_n 0, 1) := by decide +kernel
theorem d_Crowd_waiting_19 : decode prog_4_method_12_code 19 = .ok (.getfield 22, 3) := by decide +kernel
theorem d_Crowd_waiting_22 : decode prog_4_method_12_code 22 = .ok (.ifCond .eq 16, 3) := by decide +kernel
theorem d_Crowd_waiting_25 : decode prog_4_method_12_code 25 = .ok (.aload_n 0, 1) := by decide +kernel
theorem d_Crowd_waiting_26 : decode prog_4_method_12_code 26 = .ok (.getfield 19, 3) := by decide +kernel
theorem d_Crowd_waiting_29 : decode prog_4_method_12_code 29 = .ok (.iconst (-1), 1) := by decide +kernel
theorem d_Crowd_waiting_30 : decode prog_4_method_12_code 30 = .ok (.invokestatic 46, 3) := by decide +kernel
theorem d_Crowd_waiting_33 : decode prog_4_method_12_code 33 = .ok (.aload_n 0, 1) := by decide +kernel
theorem d_Crowd_waiting_34 : decode prog_4_method_12_code 34 = .ok (.iconst 0, 1) := by decide +kernel
theorem d_Crowd_waiting_35 : decode prog_4_method_12_code 35 = .ok (.putfield 22, 3) := by decide +kernel
theorem d_Crowd_waiting_38 : decode prog_4_method_12_code 38 = .ok (.aload_n 0, 1) := by decide +kernel
theorem d_Crowd_waiting_39 : decode prog_4_method_12_code 39 = .ok (.getfield 19, 3) := by decide +kernel
theorem d_Crowd_waiting_42 : decode prog_4_method_12_code 42 = .ok (.iload_n 1, 1) := by decide +kernel
theorem d_Crowd_waiting_43 : decode prog_4_method_12_code 43 = .ok (.iaload, 1) := by decide +kernel
theorem d_Crowd_waiting_44 : decode prog_4_method_12_code 44 = .ok (.iconst (-1), 1) := by decide +kernel
theorem d_Crowd_waiting_45 : decode prog_4_method_12_code 45 = .ok (.if_icmp .ne 14, 3) := by decide +kernel
theorem d_Crowd_waiting_48 : decode prog_4_method_12_code 48 = .ok (.aload_n 0, 1) := by decide +kernel
theorem d_Crowd_waiting_49 : decode prog_4_method_12_code 49 = .ok (.getfield 19, 3) := by decide +kernel
theorem d_Crowd_waiting_52 : decode prog_4_method_12_code 52 = .ok (.iload_n 1, 1) := by decide +kernel
theorem d_Crowd_waiting_53 : decode prog_4_method_12_code 53 = .ok (.aload_n 0, 1) := by decide +kernel
theorem d_Crowd_waiting_54 : decode prog_4_method_12_code 54 = .ok (.iload_n 1, 1) := by decide +kernel
theorem d_Crowd_waiting_55 : decode prog_4_method_12_code 55 = .ok (.invokevirtual 42, 3) := by decide +kernel
theorem d_Crowd_waiting_58 : decode prog_4_method_12_code 58 = .ok (.iastore, 1) := by decide +kernel
theorem d_Crowd_waiting_59 : decode prog_4_method_12_code 59 = .ok (.aload_n 0, 1) := by decide +kernel
theorem d_Crowd_waiting_60 : decode prog_4_method_12_code 60 = .ok (.getfield 19, 3) := by decide +kernel
theorem d_Crowd_waiting_63 : decode prog_4_method_12_code 63 = .ok (.iload_n 1, 1) := by decide +kernel
theorem d_Crowd_waiting_64 : decode prog_4_method_12_code 64 = .ok (.iaload, 1) := by decide +kernel
theorem d_Crowd_waiting_65 : decode prog_4_method_12_code 65 = .ok (.iload_n 2, 1) := by decide +kernel
theorem d_Crowd_waiting_66 : decode prog_4_method_12_code 66 = .ok (.iand, 1) := by decide +kernel
theorem d_Crowd_waiting_67 : decode prog_4_method_12_code 67 = .ok (.ireturn, 1) := by decide +kernel
theorem d_Crowd_thereAt_0 : decode prog_4_method_13_code 0 = .ok (.iconst 0, 1) := by decide +kernel
theorem d_Crowd_thereAt_1 : decode prog_4_method_13_code 1 = .ok (.istore_n 2, 1) := by decide +kernel
theorem d_Crowd_thereAt_2 : decode prog_4_method_13_code 2 = .ok (.iconst 0, 1) := by decide +kernel
theorem d_Crowd_thereAt_3 : decode prog_4_method_13_code 3 = .ok (.istore_n 3, 1) := by decide +kernel
theorem d_Crowd_thereAt_4 : decode prog_4_method_13_code 4 = .ok (.iload_n 3, 1) := by decide +kernel
theorem d_Crowd_thereAt_5 : decode prog_4_method_13_code 5 = .ok (.aload_n 0, 1) := by decide +kernel
theorem d_Crowd_thereAt_6 : decode prog_4_method_13_code 6 = .ok (.getfield 15, 3) := by decide +kernel
theorem d_Crowd_thereAt_9 : decode prog_4_method_13_code 9 = .ok (.if_icmp .ge 48, 3) := by decide +kernel
theorem d_Crowd_thereAt_12 : decode prog_4_method_13_code 12 = .ok (.aload_n 0, 1) := by decide +kernel
theorem d_Crowd_thereAt_13 : decode prog_4_method_13_code 13 = .ok (.getfield 11, 3) := by decide +kernel
theorem d_Crowd_thereAt_16 : decode prog_4_method_13_code 16 = .ok (.bipush 15, 2) := by decide +kernel
theorem d_Crowd_thereAt_18 : decode prog_4_method_13_code 18 = .ok (.iload_n 3, 1) := by decide +kernel
theorem d_Crowd_thereAt_19 : decode prog_4_method_13_code 19 = .ok (.iadd, 1) := by decide +kernel
theorem d_Crowd_thereAt_20 : decode prog_4_method_13_code 20 = .ok (.iaload, 1) := by decide +kernel
theorem d_Crowd_thereAt_21 : decode prog_4_method_13_code 21 = .ok (.istore 4, 2) := by decide +kernel
theorem d_Crowd_thereAt_23 : decode prog_4_method_13_code 23 = .ok (.iload 4, 2) := by decide +kernel
theorem d_Crowd_thereAt_25 : decode prog_4_method_13_code 25 = .ok (.iload_n 1, 1) := by decide +kernel
theorem d_Crowd_thereAt_26 : decode prog_4_method_13_code 26 = .ok (.if_icmp .gt 25, 3) := by decide +kernel
theorem d_Crowd_thereAt_29 : decode prog_4_method_13_code 29 = .ok (.iload_n 1, 1) := by decide +kernel
theorem d_Crowd_thereAt_30 : decode prog_4_method_13_code 30 = .ok (.iload 4, 2) := by decide +kernel
theorem d_Crowd_thereAt_32 : decode prog_4_method_13_code 32 = .ok (.aload_n 0, 1) := by decide +kernel
theorem d_Crowd_thereAt_33 : decode prog_4_method_13_code 33 = .ok (.getfield 11, 3) := by decide +kernel
theorem d_Crowd_thereAt_36 : decode prog_4_method_13_code 36 = .ok (.bipush 30, 2) := by decide +kernel
theorem d_Crowd_thereAt_38 : decode prog_4_method_13_code 38 = .ok (.iload_n 3, 1) := by decide +kernel
theorem d_Crowd_thereAt_39 : decode prog_4_method_13_code 39 = .ok (.iadd, 1) := by decide +kernel
theorem d_Crowd_thereAt_40 : decode prog_4_method_13_code 40 = .ok (.iaload, 1) := by decide +kernel
theorem d_Crowd_thereAt_41 : decode prog_4_method_13_code 41 = .ok (.iadd, 1) := by decide +kernel
theorem d_Crowd_thereAt_42 : decode prog_4_method_13_code 42 = .ok (.if_icmp .ge 9, 3) := by decide +kernel
theorem d_Crowd_thereAt_45 : decode prog_4_method_13_code 45 = .ok (.iload_n 2, 1) := by decide +kernel
theorem d_Crowd_thereAt_46 : decode prog_4_method_13_code 46 = .ok (.iconst 1, 1) := by decide +kernel
theorem d_Crowd_thereAt_47 : decode prog_4_method_13_code 47 = .ok (.iload_n 3, 1) := by decide +kernel
theorem d_Crowd_thereAt_48 : decode prog_4_method_13_code 48 = .ok (.ishl, 1) := by decide +kernel
theorem d_Crowd_thereAt_49 : decode prog_4_method_13_code 49 = .ok (.ior, 1) := by decide +kernel
theorem d_Crowd_thereAt_50 : decode prog_4_method_13_code 50 = .ok (.istore_n 2, 1) := by decide +kernel
theorem d_Crowd_thereAt_51 : decode prog_4_method_13_code 51 = .ok (.iinc 3 1, 3) := by decide +kernel
theorem d_Crowd_thereAt_54 : decode prog_4_method_13_code 54 = .ok (.goto (-50), 3) := by decide +kernel
theorem d_Crowd_thereAt_57 : decode prog_4_method_13_code 57 = .ok (.iload_n 2, 1) := by decide +kernel
theorem d_Crowd_thereAt_58 : decode prog_4_method_13_code 58 = .ok (.ireturn, 1) := by decide +kernel
theorem d_Crowd_comeBy_0 : decode prog_4_method_14_code 0 = .ok (.iconst 0, 1) := by decide +kernel
theorem d_Crowd_comeBy_1 : decode prog_4_method_14_code 1 = .ok (.istore_n 2, 1) := by decide +kernel
theorem d_Crowd_comeBy_2 : decode prog_4_method_14_code 2 = .ok (.iconst 0, 1) := by decide +kernel
theorem d_Crowd_comeBy_3 : decode prog_4_method_14_code 3 = .ok (.istore_n 3, 1) := by decide +kernel
theorem d_Crowd_comeBy_4 : decode prog_4_method_14_code 4 = .ok (.iload_n 3, 1) := by decide +kernel
theorem d_Crowd_comeBy_5 : decode prog_4_method_14_code 5 = .ok (.aload_n 0, 1) := by decide +kernel
theorem d_Crowd_comeBy_6 : decode prog_4_method_14_code 6 = .ok (.getfield 15, 3) := by decide +kernel
theorem d_Crowd_comeBy_9 : decode prog_4_method_14_code 9 = .ok (.if_icmp .ge 28, 3) := by decide +kernel
theorem d_Crowd_comeBy_12 : decode prog_4_method_14_code 12 = .ok (.aload_n 0, 1) := by decide +kernel
theorem d_Crowd_comeBy_13 : decode prog_4_method_14_code 13 = .ok (.getfield 11, 3) := by decide +kernel
theorem d_Crowd_comeBy_16 : decode prog_4_method_14_code 16 = .ok (.bipush 15, 2) := by decide +kernel
theorem d_Crowd_comeBy_18 : decode prog_4_method_14_code 18 = .ok (.iload_n 3, 1) := by decide +kernel
theorem d_Crowd_comeBy_19 : decode prog_4_method_14_code 19 = .ok (.iadd, 1) := by decide +kernel
theorem d_Crowd_comeBy_20 : decode prog_4_method_14_code 20 = .ok (.iaload, 1) := by decide +kernel
theorem d_Crowd_comeBy_21 : decode prog_4_method_14_code 21 = .ok (.iload_n 1, 1) := by decide +kernel
theorem d_Crowd_comeBy_22 : decode prog_4_method_14_code 22 = .ok (.if_icmp .gt 9, 3) := by decide +kernel
theorem d_Crowd_comeBy_25 : decode prog_4_method_14_code 25 = .ok (.iload_n 2, 1) := by decide +kernel
theorem d_Crowd_comeBy_26 : decode prog_4_method_14_code 26 = .ok (.iconst 1, 1) := by decide +kernel
theorem d_Crowd_comeBy_27 : decode prog_4_method_14_code 27 = .ok (.iload_n 3, 1) := by decide +kernel
theorem d_Crowd_comeBy_28 : decode prog_4_method_14_code 28 = .ok (.ishl, 1) := by decide +kernel
theorem d_Crowd_comeBy_29 : decode prog_4_method_14_code 29 = .ok (.ior, 1) := by decide +kernel
theorem d_Crowd_comeBy_30 : decode prog_4_method_14_code 30 = .ok (.istore_n 2, 1) := by decide +kernel
theorem d_Crowd_comeBy_31 : decode prog_4_method_14_code 31 = .ok (.iinc 3 1, 3) := by decide +kernel
theorem d_Crowd_comeBy_34 : decode prog_4_method_14_code 34 = .ok (.goto (-30), 3) := by decide +kernel
theorem d_Crowd_comeBy_37 : decode prog_4_method_14_code 37 = .ok (.iload_n 2, 1) := by decide +kernel
theorem d_Crowd_comeBy_38 : decode prog_4_method_14_code 38 = .ok (.ireturn, 1) := by decide +kernel
theorem d_Crowd_priceOf_0 : decode prog_4_method_15_code 0 = .ok (.iconst 0, 1) := by decide +kernel
theorem d_Crowd_priceOf_1 : decode prog_4_method_15_code 1 = .ok (.istore_n 2, 1) := by decide +kernel
theorem d_Crowd_priceOf_2 : decode prog_4_method_15_code 2 = .ok (.iconst 0, 1) := by decide +kernel
theorem d_Crowd_priceOf_3 : decode prog_4_method_15_code 3 = .ok (.istore_n 3, 1) := by decide +kernel
theorem d_Crowd_priceOf_4 : decode prog_4_method_15_code 4 = .ok (.iload_n 3, 1) := by decide +kernel
theorem d_Crowd_priceOf_5 : decode prog_4_method_15_code 5 = .ok (.aload_n 0, 1) := by decide +kernel
theorem d_Crowd_priceOf_6 : decode prog_4_method_15_code 6 = .ok (.getfield 15, 3) := by decide +kernel
theorem d_Crowd_priceOf_9 : decode prog_4_method_15_code 9 = .ok (.if_icmp .ge 29, 3) := by decide +kernel
theorem d_Crowd_priceOf_12 : decode prog_4_method_15_code 12 = .ok (.iload_n 1, 1) := by decide +kernel
theorem d_Crowd_priceOf_13 : decode prog_4_method_15_code 13 = .ok (.iload_n 3, 1) := by decide +kernel
theorem d_Crowd_priceOf_14 : decode prog_4_method_15_code 14 = .ok (.ishr, 1) := by decide +kernel
theorem d_Crowd_priceOf_15 : decode prog_4_method_15_code 15 = .ok (.iconst 1, 1) := by decide +kernel
theorem d_Crowd_priceOf_16 : decode prog_4_method_15_code 16 = .ok (.iand, 1) := by decide +kernel
theorem d_Crowd_priceOf_17 : decode prog_4_method_15_code 17 = .ok (.ifCond .eq 15, 3) := by decide +kernel
theorem d_Crowd_priceOf_20 : decode prog_4_method_15_code 20 = .ok (.iload_n 2, 1) := by decide +kernel
theorem d_Crowd_priceOf_21 : decode prog_4_method_15_code 21 = .ok (.aload_n 0, 1) := by decide +kernel
theorem d_Crowd_priceOf_22 : decode prog_4_method_15_code 22 = .ok (.getfield 11, 3) := by decide +kernel
theorem d_Crowd_priceOf_25 : decode prog_4_method_15_code 25 = .ok (.bipush 60, 2) := by decide +kernel
theorem d_Crowd_priceOf_27 : decode prog_4_method_15_code 27 = .ok (.iload_n 3, 1) := by decide +kernel
theorem d_Crowd_priceOf_28 : decode prog_4_method_15_code 28 = .ok (.iadd, 1) := by decide +kernel
theorem d_Crowd_priceOf_29 : decode prog_4_method_15_code 29 = .ok (.iaload, 1) := by decide +kernel
theorem d_Crowd_priceOf_30 : decode prog_4_method_15_code 30 = .ok (.iadd, 1) := by decide +kernel
theorem d_Crowd_priceOf_31 : decode prog_4_method_15_code 31 = .ok (.istore_n 2, 1) := by decide +kernel
theorem d_Crowd_priceOf_32 : decode prog_4_method_15_code 32 = .ok (.iinc 3 1, 3) := by decide +kernel
theorem d_Crowd_priceOf_35 : decode prog_4_method_15_code 35 = .ok (.goto (-31), 3) := by decide +kernel
theorem d_Crowd_priceOf_38 : decode prog_4_method_15_code 38 = .ok (.iload_n 2, 1) := by decide +kernel
theorem d_Crowd_priceOf_39 : decode prog_4_method_15_code 39 = .ok (.ireturn, 1) := by decide +kernel
theorem d_Day_init_0 : decode prog_5_method_1_code 0 = .ok (.aload_n 0, 1) := by decide +kernel
theorem d_Day_init_1 : decode prog_5_method_1_code 1 = .ok (.invokespecial 3, 3) := by decide +kernel
theorem d_Day_init_4 : decode prog_5_method_1_code 4 = .ok (.aload_n 0, 1) := by decide +kernel
theorem d_Day_init_5 : decode prog_5_method_1_code 5 = .ok (.new 9, 3) := by decide +kernel
theorem d_Day_init_8 : decode prog_5_method_1_code 8 = .ok (.dup, 1) := by decide +kernel
theorem d_Day_init_9 : decode prog_5_method_1_code 9 = .ok (.invokespecial 11, 3) := by decide +kernel
theorem d_Day_init_12 : decode prog_5_method_1_code 12 = .ok (.putfield 12, 3) := by decide +kernel
theorem d_Day_init_15 : decode prog_5_method_1_code 15 = .ok (.aload_n 0, 1) := by decide +kernel
theorem d_Day_init_16 : decode prog_5_method_1_code 16 = .ok (.bipush 15, 2) := by decide +kernel
theorem d_Day_init_18 : decode prog_5_method_1_code 18 = .ok (.newarray .int, 2) := by decide +kernel
theorem d_Day_init_20 : decode prog_5_method_1_code 20 = .ok (.putfield 18, 3) := by decide +kernel
theorem d_Day_init_23 : decode prog_5_method_1_code 23 = .ok (.aload_n 0, 1) := by decide +kernel
theorem d_Day_init_24 : decode prog_5_method_1_code 24 = .ok (.iconst 0, 1) := by decide +kernel
theorem d_Day_init_25 : decode prog_5_method_1_code 25 = .ok (.putfield 22, 3) := by decide +kernel
theorem d_Day_init_28 : decode prog_5_method_1_code 28 = .ok (.aload_n 0, 1) := by decide +kernel
theorem d_Day_init_29 : decode prog_5_method_1_code 29 = .ok (.iconst 0, 1) := by decide +kernel
theorem d_Day_init_30 : decode prog_5_method_1_code 30 = .ok (.putfield 26, 3) := by decide +kernel
theorem d_Day_init_33 : decode prog_5_method_1_code 33 = .ok (.aload_n 0, 1) := by decide +kernel
theorem d_Day_init_34 : decode prog_5_method_1_code 34 = .ok (.iconst 0, 1) := by decide +kernel
theorem d_Day_init_35 : decode prog_5_method_1_code 35 = .ok (.putfield 29, 3) := by decide +kernel
theorem d_Day_init_38 : decode prog_5_method_1_code 38 = .ok (.aload_n 0, 1) := by decide +kernel
theorem d_Day_init_39 : decode prog_5_method_1_code 39 = .ok (.iconst 0, 1) := by decide +kernel
theorem d_Day_init_40 : decode prog_5_method_1_code 40 = .ok (.putfield 32, 3) := by decide +kernel
theorem d_Day_init_43 : decode prog_5_method_1_code 43 = .ok (.aload_n 0, 1) := by decide +kernel
theorem d_Day_init_44 : decode prog_5_method_1_code 44 = .ok (.aload_n 1, 1) := by decide +kernel
theorem d_Day_init_45 : decode prog_5_method_1_code 45 = .ok (.putfield 35, 3) := by decide +kernel
theorem d_Day_init_48 : decode prog_5_method_1_code 48 = .ok (.return_, 1) := by decide +kernel
theorem d_Day_who_0 : decode prog_5_method_2_code 0 = .ok (.aload_n 0, 1) := by decide +kernel
theorem d_Day_who_1 : decode prog_5_method_2_code 1 = .ok (.getfield 12, 3) := by decide +kernel
theorem d_Day_who_4 : decode prog_5_method_2_code 4 = .ok (.areturn, 1) := by decide +kernel
theorem d_Day_begins_0 : decode prog_5_method_3_code 0 = .ok (.aload_n 0, 1) := by decide +kernel
theorem d_Day_begins_1 : decode prog_5_method_3_code 1 = .ok (.getfield 12, 3) := by decide +kernel
theorem d_Day_begins_4 : decode prog_5_method_3_code 4 = .ok (.aload_n 1, 1) := by decide +kernel
theorem d_Day_begins_5 : decode prog_5_method_3_code 5 = .ok (.invokevirtual 39, 3) := by decide +kernel
theorem d_Day_begins_8 : decode prog_5_method_3_code 8 = .ok (.aload_n 0, 1) := by decide +kernel
theorem d_Day_begins_9 : decode prog_5_method_3_code 9 = .ok (.aload_n 1, 1) := by decide +kernel
theorem d_Day_begins_10 : decode prog_5_method_3_code 10 = .ok (.invokevirtual 43, 3) := by decide +kernel
theorem d_Day_begins_13 : decode prog_5_method_3_code 13 = .ok (.invokevirtual 47, 3) := by decide +kernel
theorem d_Day_begins_16 : decode prog_5_method_3_code 16 = .ok (.return_, 1) := by decide +kernel
theorem d_Day_again_0 : decode prog_5_method_4_code 0 = .ok (.aload_n 0, 1) := by decide +kernel
theorem d_Day_again_1 : decode prog_5_method_4_code 1 = .ok (.iload_n 1, 1) := by decide +kernel
theorem d_Day_again_2 : decode prog_5_method_4_code 2 = .ok (.putfield 22, 3) := by decide +kernel
theorem d_Day_again_5 : decode prog_5_method_4_code 5 = .ok (.aload_n 0, 1) := by decide +kernel
theorem d_Day_again_6 : decode prog_5_method_4_code 6 = .ok (.iconst 0, 1) := by decide +kernel
theorem d_Day_again_7 : decode prog_5_method_4_code 7 = .ok (.putfield 26, 3) := by decide +kernel
theorem d_Day_again_10 : decode prog_5_method_4_code 10 = .ok (.aload_n 0, 1) := by decide +kernel
theorem d_Day_again_11 : decode prog_5_method_4_code 11 = .ok (.iconst 0, 1) := by decide +kernel
theorem d_Day_again_12 : decode prog_5_method_4_code 12 = .ok (.putfield 29, 3) := by decide +kernel
theorem d_Day_again_15 : decode prog_5_method_4_code 15 = .ok (.aload_n 0, 1) := by decide +kernel
theorem d_Day_again_16 : decode prog_5_method_4_code 16 = .ok (.iconst 0, 1) := by decide +kernel
theorem d_Day_again_17 : decode prog_5_method_4_code 17 = .ok (.putfield 32, 3) := by decide +kernel
theorem d_Day_again_20 : decode prog_5_method_4_code 20 = .ok (.aload_n 0, 1) := by decide +kernel
theorem d_Day_again_21 : decode prog_5_method_4_code 21 = .ok (.getfield 18, 3) := by decide +kernel
theorem d_Day_again_24 : decode prog_5_method_4_code 24 = .ok (.bipush (-2), 2) := by decide +kernel
theorem d_Day_again_26 : decode prog_5_method_4_code 26 = .ok (.invokestatic 51, 3) := by decide +kernel
theorem d_Day_again_29 : decode prog_5_method_4_code 29 = .ok (.return_, 1) := by decide +kernel
theorem d_Day_againWith_0 : decode prog_5_method_5_code 0 = .ok (.aload_n 0, 1) := by decide +kernel
theorem d_Day_againWith_1 : decode prog_5_method_5_code 1 = .ok (.getfield 12, 3) := by decide +kernel
theorem d_Day_againWith_4 : decode prog_5_method_5_code 4 = .ok (.iload_n 1, 1) := by decide +kernel
theorem d_Day_againWith_5 : decode prog_5_method_5_code 5 = .ok (.iload_n 2, 1) := by decide +kernel
theorem d_Day_againWith_6 : decode prog_5_method_5_code 6 = .ok (.iload_n 3, 1) := by decide +kernel
theorem d_Day_againWith_7 : decode prog_5_method_5_code 7 = .ok (.invokevirtual 57, 3) := by decide +kernel
theorem d_Day_againWith_10 : decode prog_5_method_5_code 10 = .ok (.aload_n 0, 1) := by decide +kernel
theorem d_Day_againWith_11 : decode prog_5_method_5_code 11 = .ok (.aload_n 0, 1) := by decide +kernel
theorem d_Day_againWith_12 : decode prog_5_method_5_code 12 = .ok (.getfield 12, 3) := by decide +kernel
theorem d_Day_againWith_15 : decode prog_5_method_5_code 15 = .ok (.invokevirtual 43, 3) := by decide +kernel
theorem d_Day_againWith_18 : decode prog_5_method_5_code 18 = .ok (.invokevirtual 47, 3) := by decide +kernel
theorem d_Day_againWith_21 : decode prog_5_method_5_code 21 = .ok (.return_, 1) := by decide +kernel
theorem d_Day_opens_0 : decode prog_5_method_6_code 0 = .ok (.aload_n 0, 1) := by decide +kernel
theorem d_Day_opens_1 : decode prog_5_method_6_code 1 = .ok (.getfield 12, 3) := by decide +kernel
theorem d_Day_opens_4 : decode prog_5_method_6_code 4 = .ok (.iload_n 1, 1) := by decide +kernel
theorem d_Day_opens_5 : decode prog_5_method_6_code 5 = .ok (.iload_n 2, 1) := by decide +kernel
theorem d_Day_opens_6 : decode prog_5_method_6_code 6 = .ok (.invokevirtual 61, 3) := by decide +kernel
theorem d_Day_opens_9 : decode prog_5_method_6_code 9 = .ok (.istore 4, 2) := by decide +kernel
theorem d_Day_opens_11 : decode prog_5_method_6_code 11 = .ok (.aload_n 0, 1) := by decide +kernel
theorem d_Day_opens_12 : decode prog_5_method_6_code 12 = .ok (.iload 4, 2) := by decide +kernel
theorem d_Day_opens_14 : decode prog_5_method_6_code 14 = .ok (.invokestatic 65, 3) := by decide +kernel
theorem d_Day_opens_17 : decode prog_5_method_6_code 17 = .ok (.putfield 29, 3) := by decide +kernel
theorem d_Day_opens_20 : decode prog_5_method_6_code 20 = .ok (.aload_n 0, 1) := by decide +kernel
theorem d_Day_opens_21 : decode prog_5_method_6_code 21 = .ok (.aload_n 0, 1) := by decide +kernel
theorem d_Day_opens_22 : decode prog_5_method_6_code 22 = .ok (.getfield 32, 3) := by decide +kernel
theorem d_Day_opens_25 : decode prog_5_method_6_code 25 = .ok (.aload_n 0, 1) := by decide +kernel
theorem d_Day_opens_26 : decode prog_5_method_6_code 26 = .ok (.getfield 29, 3) := by decide +kernel
theorem d_Day_opens_29 : decode prog_5_method_6_code 29 = .ok (.invokestatic 71, 3) := by decide +kernel
theorem d_Day_opens_32 : decode prog_5_method_6_code 32 = .ok (.putfield 32, 3) := by decide +kernel
theorem d_Day_opens_35 : decode prog_5_method_6_code 35 = .ok (.aload_n 0, 1) := by decide +kernel
theorem d_Day_opens_36 : decode prog_5_method_6_code 36 = .ok (.getfield 35, 3) := by decide +kernel
theorem d_Day_opens_39 : decode prog_5_method_6_code 39 = .ok (.aload_n 0, 1) := by decide +kernel
theorem d_Day_opens_40 : decode prog_5_method_6_code 40 = .ok (.getfield 12, 3) := by decide +kernel
theorem d_Day_opens_43 : decode prog_5_method_6_code 43 = .ok (.iload_n 1, 1) := by decide +kernel
theorem d_Day_opens_44 : decode prog_5_method_6_code 44 = .ok (.iload 4, 2) := by decide +kernel
theorem d_Day_opens_46 : decode prog_5_method_6_code 46 = .ok (.iload_n 3, 1) := by decide +kernel
theorem d_Day_opens_47 : decode prog_5_method_6_code 47 = .ok (.invokevirtual 76, 3) := by decide +kernel
theorem d_Day_opens_50 : decode prog_5_method_6_code 50 = .ok (.istore 5, 2) := by decide +kernel
theorem d_Day_opens_52 : decode prog_5_method_6_code 52 = .ok (.aload_n 0, 1) := by decide +kernel
theorem d_Day_opens_53 : decode prog_5_method_6_code 53 = .ok (.getfield 12, 3) := by decide +kernel
theorem d_Day_opens_56 : decode prog_5_method_6_code 56 = .ok (.iload 5, 2) := by decide +kernel
theorem d_Day_opens_58 : decode prog_5_method_6_code 58 = .ok (.invokevirtual 82, 3) := by decide +kernel
theorem d_Day_opens_61 : decode prog_5_method_6_code 61 = .ok (.ifCond .eq 39, 3) := by decide +kernel
theorem d_Day_opens_64 : decode prog_5_method_6_code 64 = .ok (.aload_n 0, 1) := by decide +kernel
theorem d_Day_opens_65 : decode prog_5_method_6_code 65 = .ok (.getfield 18, 3) := by decide +kernel
theorem d_Day_opens_68 : decode prog_5_method_6_code 68 = .ok (.iload 5, 2) := by decide +kernel
theorem d_Day_opens_70 : decode prog_5_method_6_code 70 = .ok (.iload_n 1, 1) := by decide +kernel
theorem d_Day_opens_71 : decode prog_5_method_6_code 71 = .ok (.iastore, 1) := by decide +kernel
theorem d_Day_opens_72 : decode prog_5_method_6_code 72 = .ok (.aload_n 0, 1) := by decide +kernel
theorem d_Day_opens_73 : decode prog_5_method_6_code 73 = .ok (.dup, 1) := by decide +kernel
theorem d_Day_opens_74 : decode prog_5_method_6_code 74 = .ok (.getfield 26, 3) := by decide +kernel
theorem d_Day_opens_77 : decode prog_5_method_6_code 77 = .ok (.iconst 1, 1) := by decide +kernel
theorem d_Day_opens_78 : decode prog_5_method_6_code 78 = .ok (.iload 5, 2) := by decide +kernel
theorem d_Day_opens_80 : decode prog_5_method_6_code 80 = .ok (.ishl, 1) := by decide +kernel
theorem d_Day_opens_81 : decode prog_5_method_6_code 81 = .ok (.ior, 1) := by decide +kernel
theorem d_Day_opens_82 : decode prog_5_method_6_code 82 = .ok (.putfield 26, 3) := by decide +kernel
theorem d_Day_opens_85 : decode prog_5_method_6_code 85 = .ok (.aload_n 0, 1) := by decide +kernel
theorem d_Day_opens_86 : decode prog_5_method_6_code 86 = .ok (.dup, 1) := by decide +kernel
theorem d_Day_opens_87 : decode prog_5_method_6_code 87 = .ok (.getfield 22, 3) := by decide +kernel
theorem d_Day_opens_90 : decode prog_5_method_6_code 90 = .ok (.iconst 1, 1) := by decide +kernel
theorem d_Day_opens_91 : decode prog_5_method_6_code 91 = .ok (.iload 5, 2) := by decide +kernel
theorem d_Day_opens_93 : decode prog_5_method_6_code 93 = .ok (.ishl, 1) := by decide +kernel
theorem d_Day_opens_94 : decode prog_5_method_6_code 94 = .ok (.iconst (-1), 1) := by decide +kernel
theorem d_Day_opens_95 : decode prog_5_method_6_code 95 = .ok (.ixor, 1) := by decide +kernel
theorem d_Day_opens_96 : decode prog_5_method_6_code 96 = .ok (.iand, 1) := by decide +kernel
theorem d_Day_opens_97 : decode prog_5_method_6_code 97 = .ok (.putfield 22, 3) := by decide +kernel
theorem d_Day_opens_100 : decode prog_5_method_6_code 100 = .ok (.iload 5, 2) := by decide +kernel
theorem d_Day_opens_102 : decode prog_5_method_6_code 102 = .ok (.ireturn, 1) := by decide +kernel
theorem d_Day_passes_0 : decode prog_5_method_7_code 0 = .ok (.aload_n 0, 1) := by decide +kernel
theorem d_Day_passes_1 : decode prog_5_method_7_code 1 = .ok (.iload_n 1, 1) := by decide +kernel
theorem d_Day_passes_2 : decode prog_5_method_7_code 2 = .ok (.aload_n 0, 1) := by decide +kernel
theorem d_Day_passes_3 : decode prog_5_method_7_code 3 = .ok (.getfield 22, 3) := by decide +kernel
theorem d_Day_passes_6 : decode prog_5_method_7_code 6 = .ok (.iconst 5, 1) := by decide +kernel
theorem d_Day_passes_7 : decode prog_5_method_7_code 7 = .ok (.invokevirtual 86, 3) := by decide +kernel
theorem d_Day_passes_10 : decode prog_5_method_7_code 10 = .ok (.ireturn, 1) := by decide +kernel
theorem d_Day_runs_0 : decode prog_5_method_8_code 0 = .ok (.iconst 0, 1) := by decide +kernel
theorem d_Day_runs_1 : decode prog_5_method_8_code 1 = .ok (.istore_n 3, 1) := by decide +kernel
theorem d_Day_runs_2 : decode prog_5_method_8_code 2 = .ok (.iload_n 3, 1) := by decide +kernel
theorem d_Day_runs_3 : decode prog_5_method_8_code 3 = .ok (.iload_n 1, 1) := by decide +kernel
theorem d_Day_runs_4 : decode prog_5_method_8_code 4 = .ok (.if_icmp .ge 27, 3) := by decide +kernel
theorem d_Day_runs_7 : decode prog_5_method_8_code 7 = .ok (.aload_n 0, 1) := by decide +kernel
theorem d_Day_runs_8 : decode prog_5_method_8_code 8 = .ok (.getfield 22, 3) := by decide +kernel
theorem d_Day_runs_11 : decode prog_5_method_8_code 11 = .ok (.ifCond .eq 20, 3) := by decide +kernel
theorem d_Day_runs_14 : decode prog_5_method_8_code 14 = .ok (.aload_n 0, 1) := by decide +kernel
theorem d_Day_runs_15 : decode prog_5_method_8_code 15 = .ok (.iload_n 3, 1) := by decide +kernel
theorem d_Day_runs_16 : decode prog_5_method_8_code 16 = .ok (.aload_n 0, 1) := by decide +kernel
theorem d_Day_runs_17 : decode prog_5_method_8_code 17 = .ok (.getfield 22, 3) := by decide +kernel
theorem d_Day_runs_20 : decode prog_5_method_8_code 20 = .ok (.iload_n 2, 1) := by decide +kernel
theorem d_Day_runs_21 : decode prog_5_method_8_code 21 = .ok (.invokevirtual 86, 3) := by decide +kernel
theorem d_Day_runs_24 : decode prog_5_method_8_code 24 = .ok (.pop, 1) := by decide +kernel
theorem d_Day_runs_25 : decode prog_5_method_8_code 25 = .ok (.iinc 3 1, 3) := by decide +kernel
theorem d_Day_runs_28 : decode prog_5_method_8_code 28 = .ok (.goto (-26), 3) := by decide +kernel
theorem d_Day_runs_31 : decode prog_5_method_8_code 31 = .ok (.aload_n 0, 1) := by decide +kernel
theorem d_Day_runs_32 : decode prog_5_method_8_code 32 = .ok (.getfield 26, 3) := by decide +kernel
theorem d_Day_runs_35 : decode prog_5_method_8_code 35 = .ok (.invokestatic 65, 3) := by decide +kernel
theorem d_Day_runs_38 : decode prog_5_method_8_code 38 = .ok (.ireturn, 1) := by decide +kernel
theorem d_Day_till_0 : decode prog_5_method_9_code 0 = .ok (.aload_n 0, 1) := by decide +kernel
theorem d_Day_till_1 : decode prog_5_method_9_code 1 = .ok (.getfield 12, 3) := by decide +kernel
theorem d_Day_till_4 : decode prog_5_method_9_code 4 = .ok (.iload_n 1, 1) := by decide +kernel
theorem d_Day_till_5 : decode prog_5_method_9_code 5 = .ok (.invokevirtual 82, 3) := by decide +kernel
theorem d_Day_till_8 : decode prog_5_method_9_code 8 = .ok (.ifCond .ne 6, 3) := by decide +kernel
theorem d_Day_till_11 : decode prog_5_method_9_code 11 = .ok (.bipush (-2), 2) := by decide +kernel
theorem d_Day_till_13 : decode prog_5_method_9_code 13 = .ok (.ireturn, 1) := by decide +kernel
theorem d_Day_till_14 : decode prog_5_method_9_code 14 = .ok (.iload_n 2, 1) := by decide +kernel
theorem d_Day_till_15 : decode prog_5_method_9_code 15 = .ok (.aload_n 0, 1) := by decide +kernel
theorem d_Day_till_16 : decode prog_5_method_9_code 16 = .ok (.getfield 12, 3) := by decide +kernel
theorem d_Day_till_19 : decode prog_5_method_9_code 19 = .ok (.iconst 1, 1) := by decide +kernel
theorem d_Day_till_20 : decode prog_5_method_9_code 20 = .ok (.iload_n 1, 1) := by decide +kernel
theorem d_Day_till_21 : decode prog_5_method_9_code 21 = .ok (.invokevirtual 90, 3) := by decide +kernel
theorem d_Day_till_24 : decode prog_5_method_9_code 24 = .ok (.aload_n 0, 1) := by decide +kernel
theorem d_Day_till_25 : decode prog_5_method_9_code 25 = .ok (.getfield 12, 3) := by decide +kernel
theorem d_Day_till_28 : decode prog_5_method_9_code 28 = .ok (.iconst 2, 1) := by decide +kernel
theorem d_Day_till_29 : decode prog_5_method_9_code 29 = .ok (.iload_n 1, 1) := by decide +kernel
theorem d_Day_till_30 : decode prog_5_method_9_code 30 = .ok (.invokevirtual 90, 3) := by decide +kernel
theorem d_Day_till_33 : decode prog_5_method_9_code 33 = .ok (.iadd, 1) := by decide +kernel
theorem d_Day_till_34 : decode prog_5_method_9_code 34 = .ok (.invokestatic 93, 3) := by decide +kernel
theorem d_Day_till_37 : decode prog_5_method_9_code 37 = .ok (.istore_n 3, 1) := by decide +kernel
theorem d_Day_till_38 : decode prog_5_method_9_code 38 = .ok (.iconst 0, 1) := by decide +kernel
theorem d_Day_till_39 : decode prog_5_method_9_code 39 = .ok (.istore 4, 2) := by decide +kernel
theorem d_Day_till_41 : decode prog_5_method_9_code 41 = .ok (.iload 4, 2) := by decide +kernel
theorem d_Day_till_43 : decode prog_5_method_9_code 43 = .ok (.iload_n 3, 1) := by decide +kernel
theorem d_Day_till_44 : decode prog_5_method_9_code 44 = .ok (.if_icmp .ge 32, 3) := by decide +kernel
theorem d_Day_till_47 : decode prog_5_method_9_code 47 = .ok (.aload_n 0, 1) := by decide +kernel
theorem d_Day_till_48 : decode prog_5_method_9_code 48 = .ok (.getfield 18, 3) := by decide +kernel
theorem d_Day_till_51 : decode prog_5_method_9_code 51 = .ok (.iload_n 1, 1) := by decide +kernel
theorem d_Day_till_52 : decode prog_5_method_9_code 52 = .ok (.iaload, 1) := by decide +kernel
theorem d_Day_till_53 : decode prog_5_method_9_code 53 = .ok (.bipush (-2), 2) := by decide +kernel
theorem d_Day_till_55 : decode prog_5_method_9_code 55 = .ok (.if_icmp .ne 21, 3) := by decide +kernel
theorem d_Day_till_58 : decode prog_5_method_9_code 58 = .ok (.aload_n 0, 1) := by decide +kernel
theorem d_Day_till_59 : decode prog_5_method_9_code 59 = .ok (.iload 4, 2) := by decide +kernel
theorem d_Day_till_61 : decode prog_5_method_9_code 61 = .ok (.aload_n 0, 1) := by decide +kernel
theorem d_Day_till_62 : decode prog_5_method_9_code 62 = .ok (.getfield 22, 3) := by decide +kernel
theorem d_Day_till_65 : decode prog_5_method_9_code 65 = .ok (.iconst 5, 1) := by decide +kernel
theorem d_Day_till_66 : decode prog_5_method_9_code 66 = .ok (.invokevirtual 86, 3) := by decide +kernel
theorem d_Day_till_69 : decode prog_5_method_9_code 69 = .ok (.pop, 1) := by decide +kernel
theorem d_Day_till_70 : decode prog_5_method_9_code 70 = .ok (.iinc 4 1, 3) := by decide +kernel
theorem d_Day_till_73 : decode prog_5_method_9_code 73 = .ok (.goto (-32), 3) := by decide +kernel
theorem d_Day_till_76 : decode prog_5_method_9_code 76 = .ok (.aload_n 0, 1) := by decide +kernel
theorem d_Day_till_77 : decode prog_5_method_9_code 77 = .ok (.getfield 18, 3) := by decide +kernel
theorem d_Day_till_80 : decode prog_5_method_9_code 80 = .ok (.iload_n 1, 1) := by decide +kernel
theorem d_Day_till_81 : decode prog_5_method_9_code 81 = .ok (.iaload, 1) := by decide +kernel
theorem d_Day_till_82 : decode prog_5_method_9_code 82 = .ok (.ireturn, 1) := by decide +kernel
theorem d_Day_twoGates_0 : decode prog_5_method_10_code 0 = .ok (.iconst 0, 1) := by decide +kernel
theorem d_Day_twoGates_1 : decode prog_5_method_10_code 1 = .ok (.istore_n 3, 1) := by decide +kernel
theorem d_Day_twoGates_2 : decode prog_5_method_10_code 2 = .ok (.iload_n 3, 1) := by decide +kernel
theorem d_Day_twoGates_3 : decode prog_5_method_10_code 3 = .ok (.iload_n 2, 1) := by decide +kernel
theorem d_Day_twoGates_4 : decode prog_5_method_10_code 4 = .ok (.if_icmp .ge 44, 3) := by decide +kernel
theorem d_Day_twoGates_7 : decode prog_5_method_10_code 7 = .ok (.aload_n 0, 1) := by decide +kernel
theorem d_Day_twoGates_8 : decode prog_5_method_10_code 8 = .ok (.getfield 22, 3) := by decide +kernel
theorem d_Day_twoGates_11 : decode prog_5_method_10_code 11 = .ok (.ifCond .eq 37, 3) := by decide +kernel
theorem d_Day_twoGates_14 : decode prog_5_method_10_code 14 = .ok (.aload_n 0, 1) := by decide +kernel
theorem d_Day_twoGates_15 : decode prog_5_method_10_code 15 = .ok (.iload_n 3, 1) := by decide +kernel
theorem d_Day_twoGates_16 : decode prog_5_method_10_code 16 = .ok (.aload_n 0, 1) := by decide +kernel
theorem d_Day_twoGates_17 : decode prog_5_method_10_code 17 = .ok (.getfield 22, 3) := by decide +kernel
theorem d_Day_twoGates_20 : decode prog_5_method_10_code 20 = .ok (.iload_n 1, 1) := by decide +kernel
theorem d_Day_twoGates_21 : decode prog_5_method_10_code 21 = .ok (.iconst (-1), 1) := by decide +kernel
theorem d_Day_twoGates_22 : decode prog_5_method_10_code 22 = .ok (.ixor, 1) := by decide +kernel
theorem d_Day_twoGates_23 : decode prog_5_method_10_code 23 = .ok (.iand, 1) := by decide +kernel
theorem d_Day_twoGates_24 : decode prog_5_method_10_code 24 = .ok (.iconst 5, 1) := by decide +kernel
theorem d_Day_twoGates_25 : decode prog_5_method_10_code 25 = .ok (.invokevirtual 86, 3) := by decide +kernel
theorem d_Day_twoGates_28 : decode prog_5_method_10_code 28 = .ok (.pop, 1) := by decide +kernel
theorem d_Day_twoGates_29 : decode prog_5_method_10_code 29 = .ok (.aload_n 0, 1) := by decide +kernel
theorem d_Day_twoGates_30 : decode prog_5_method_10_code 30 = .ok (.iload_n 3, 1) := by decide +kernel
theorem d_Day_twoGates_31 : decode prog_5_method_10_code 31 = .ok (.aload_n 0, 1) := by decide +kernel
theorem d_Day_twoGates_32 : decode prog_5_method_10_code 32 = .ok (.getfield 22, 3) := by decide +kernel
theorem d_Day_twoGates_35 : decode prog_5_method_10_code 35 = .ok (.iload_n 1, 1) := by decide +kernel
theorem d_Day_twoGates_36 : decode prog_5_method_10_code 36 = .ok (.iand, 1) := by decide +kernel
theorem d_Day_twoGates_37 : decode prog_5_method_10_code 37 = .ok (.iconst 4, 1) := by decide +kernel
theorem d_Day_twoGates_38 : decode prog_5_method_10_code 38 = .ok (.invokevirtual 86, 3) := by decide +kernel
theorem d_Day_twoGates_41 : decode prog_5_method_10_code 41 = .ok (.pop, 1) := by decide +kernel
theorem d_Day_twoGates_42 : decode prog_5_method_10_code 42 = .ok (.iinc 3 1, 3) := by decide +kernel
theorem d_Day_twoGates_45 : decode prog_5_method_10_code 45 = .ok (.goto (-43), 3) := by decide +kernel
theorem d_Day_twoGates_48 : decode prog_5_method_10_code 48 = .ok (.aload_n 0, 1) := by decide +kernel
theorem d_Day_twoGates_49 : decode prog_5_method_10_code 49 = .ok (.getfield 26, 3) := by decide +kernel
theorem d_Day_twoGates_52 : decode prog_5_method_10_code 52 = .ok (.invokestatic 65, 3) := by decide +kernel
theorem d_Day_twoGates_55 : decode prog_5_method_10_code 55 = .ok (.ireturn, 1) := by decide +kernel
theorem d_Day_allAreIn_0 : decode prog_5_method_11_code 0 = .ok (.aload_n 0, 1) := by decide +kernel
theorem d_Day_allAreIn_1 : decode prog_5_method_11_code 1 = .ok (.getfield 22, 3) := by decide +kernel
theorem d_Day_allAreIn_4 : decode prog_5_method_11_code 4 = .ok (.ifCond .ne 7, 3) := by decide +kernel
theorem d_Day_allAreIn_7 : decode prog_5_method_11_code 7 = .ok (.iconst 1, 1) := by decide +kernel
theorem d_Day_allAreIn_8 : decode prog_5_method_11_code 8 = .ok (.goto 4, 3) := by decide +kernel
theorem d_Day_allAreIn_11 : decode prog_5_method_11_code 11 = .ok (.iconst 0, 1) := by decide +kernel
theorem d_Day_allAreIn_12 : decode prog_5_method_11_code 12 = .ok (.ireturn, 1) := by decide +kernel
theorem d_Day_stillOutside_0 : decode prog_5_method_12_code 0 = .ok (.aload_n 0, 1) := by decide +kernel
theorem d_Day_stillOutside_1 : decode prog_5_method_12_code 1 = .ok (.getfield 22, 3) := by decide +kernel
theorem d_Day_stillOutside_4 : decode prog_5_method_12_code 4 = .ok (.ireturn, 1) := by decide +kernel
theorem d_Day_inSince_0 : decode prog_5_method_13_code 0 = .ok (.aload_n 0, 1) := by decide +kernel
theorem d_Day_inSince_1 : decode prog_5_method_13_code 1 = .ok (.getfield 12, 3) := by decide +kernel
theorem d_Day_inSince_4 : decode prog_5_method_13_code 4 = .ok (.iload_n 1, 1) := by decide +kernel
theorem d_Day_inSince_5 : decode prog_5_method_13_code 5 = .ok (.invokevirtual 82, 3) := by decide +kernel
theorem d_Day_inSince_8 : decode prog_5_method_13_code 8 = .ok (.ifCond .eq 12, 3) := by decide +kernel
theorem d_Day_inSince_11 : decode prog_5_method_13_code 11 = .ok (.aload_n 0, 1) := by decide +kernel
theorem d_Day_inSince_12 : decode prog_5_method_13_code 12 = .ok (.getfield 18, 3) := by decide +kernel
theorem d_Day_inSince_15 : decode prog_5_method_13_code 15 = .ok (.iload_n 1, 1) := by decide +kernel
theorem d_Day_inSince_16 : decode prog_5_method_13_code 16 = .ok (.iaload, 1) := by decide +kernel
theorem d_Day_inSince_17 : decode prog_5_method_13_code 17 = .ok (.goto 5, 3) := by decide +kernel
theorem d_Day_inSince_20 : decode prog_5_method_13_code 20 = .ok (.bipush (-2), 2) := by decide +kernel
theorem d_Day_inSince_22 : decode prog_5_method_13_code 22 = .ok (.ireturn, 1) := by decide +kernel
theorem d_Day_waitedLast_0 : decode prog_5_method_14_code 0 = .ok (.aload_n 0, 1) := by decide +kernel
theorem d_Day_waitedLast_1 : decode prog_5_method_14_code 1 = .ok (.getfield 29, 3) := by decide +kernel
theorem d_Day_waitedLast_4 : decode prog_5_method_14_code 4 = .ok (.ireturn, 1) := by decide +kernel
theorem d_Day_mostWaited_0 : decode prog_5_method_15_code 0 = .ok (.aload_n 0, 1) := by decide +kernel
theorem d_Day_mostWaited_1 : decode prog_5_method_15_code 1 = .ok (.getfield 32, 3) := by decide +kernel
theorem d_Day_mostWaited_4 : decode prog_5_method_15_code 4 = .ok (.ireturn, 1) := by decide +kernel
theorem d_Day_wentWithout_0 : decode prog_5_method_16_code 0 = .ok (.iconst 0, 1) := by decide +kernel
theorem d_Day_wentWithout_1 : decode prog_5_method_16_code 1 = .ok (.istore_n 2, 1) := by decide +kernel
theorem d_Day_wentWithout_2 : decode prog_5_method_16_code 2 = .ok (.iconst 0, 1) := by decide +kernel
theorem d_Day_wentWithout_3 : decode prog_5_method_16_code 3 = .ok (.istore_n 3, 1) := by decide +kernel
theorem d_Day_wentWithout_4 : decode prog_5_method_16_code 4 = .ok (.iload_n 3, 1) := by decide +kernel
theorem d_Day_wentWithout_5 : decode prog_5_method_16_code 5 = .ok (.aload_n 0, 1) := by decide +kernel
theorem d_Day_wentWithout_6 : decode prog_5_method_16_code 6 = .ok (.getfield 12, 3) := by decide +kernel
theorem d_Day_wentWithout_9 : decode prog_5_method_16_code 9 = .ok (.invokevirtual 96, 3) := by decide +kernel
theorem d_Day_wentWithout_12 : decode prog_5_method_16_code 12 = .ok (.if_icmp .ge 50, 3) := by decide +kernel
theorem d_Day_wentWithout_15 : decode prog_5_method_16_code 15 = .ok (.aload_n 0, 1) := by decide +kernel
theorem d_Day_wentWithout_16 : decode prog_5_method_16_code 16 = .ok (.getfield 12, 3) := by decide +kernel
theorem d_Day_wentWithout_19 : decode prog_5_method_16_code 19 = .ok (.iconst 1, 1) := by decide +kernel
theorem d_Day_wentWithout_20 : decode prog_5_method_16_code 20 = .ok (.iload_n 3, 1) := by decide +kernel
theorem d_Day_wentWithout_21 : decode prog_5_method_16_code 21 = .ok (.invokevirtual 90, 3) := by decide +kernel
theorem d_Day_wentWithout_24 : decode prog_5_method_16_code 24 = .ok (.aload_n 0, 1) := by decide +kernel
theorem d_Day_wentWithout_25 : decode prog_5_method_16_code 25 = .ok (.getfield 12, 3) := by decide +kernel
theorem d_Day_wentWithout_28 : decode prog_5_method_16_code 28 = .ok (.iconst 2, 1) := by decide +kernel
theorem d_Day_wentWithout_29 : decode prog_5_method_16_code 29 = .ok (.iload_n 3, 1) := by decide +kernel
theorem d_Day_wentWithout_30 : decode prog_5_method_16_code 30 = .ok (.invokevirtual 90, 3) := by decide +kernel
theorem d_Day_wentWithout_33 : decode prog_5_method_16_code 33 = .ok (.iadd, 1) := by decide +kernel
theorem d_Day_wentWithout_34 : decode prog_5_method_16_code 34 = .ok (.istore 4, 2) := by decide +kernel
theorem d_Day_wentWithout_36 : decode prog_5_method_16_code 36 = .ok (.aload_n 0, 1) := by decide +kernel
theorem d_Day_wentWithout_37 : decode prog_5_method_16_code 37 = .ok (.getfield 18, 3) := by decide +kernel
theorem d_Day_wentWithout_40 : decode prog_5_method_16_code 40 = .ok (.iload_n 3, 1) := by decide +kernel
theorem d_Day_wentWithout_41 : decode prog_5_method_16_code 41 = .ok (.iaload, 1) := by decide +kernel
theorem d_Day_wentWithout_42 : decode prog_5_method_16_code 42 = .ok (.bipush (-2), 2) := by decide +kernel
theorem d_Day_wentWithout_44 : decode prog_5_method_16_code 44 = .ok (.if_icmp .ne 12, 3) := by decide +kernel
theorem d_Day_wentWithout_47 : decode prog_5_method_16_code 47 = .ok (.iload 4, 2) := by decide +kernel
theorem d_Day_wentWithout_49 : decode prog_5_method_16_code 49 = .ok (.iload_n 1, 1) := by decide +kernel
theorem d_Day_wentWithout_50 : decode prog_5_method_16_code 50 = .ok (.if_icmp .gt 6, 3) := by decide +kernel
theorem d_Day_wentWithout_53 : decode prog_5_method_16_code 53 = .ok (.iinc 2 1, 3) := by decide +kernel
theorem d_Day_wentWithout_56 : decode prog_5_method_16_code 56 = .ok (.iinc 3 1, 3) := by decide +kernel
theorem d_Day_wentWithout_59 : decode prog_5_method_16_code 59 = .ok (.goto (-55), 3) := by decide +kernel
theorem d_Day_wentWithout_62 : decode prog_5_method_16_code 62 = .ok (.iload_n 2, 1) := by decide +kernel
theorem d_Day_wentWithout_63 : decode prog_5_method_16_code 63 = .ok (.ireturn, 1) := by decide +kernel
theorem d_Day_waitsWithin_0 : decode prog_5_method_17_code 0 = .ok (.iconst 0, 1) := by decide +kernel
theorem d_Day_waitsWithin_1 : decode prog_5_method_17_code 1 = .ok (.istore_n 1, 1) := by decide +kernel
theorem d_Day_waitsWithin_2 : decode prog_5_method_17_code 2 = .ok (.iconst 0, 1) := by decide +kernel
theorem d_Day_waitsWithin_3 : decode prog_5_method_17_code 3 = .ok (.istore_n 2, 1) := by decide +kernel
theorem d_Day_waitsWithin_4 : decode prog_5_method_17_code 4 = .ok (.iload_n 2, 1) := by decide +kernel
theorem d_Day_waitsWithin_5 : decode prog_5_method_17_code 5 = .ok (.aload_n 0, 1) := by decide +kernel
theorem d_Day_waitsWithin_6 : decode prog_5_method_17_code 6 = .ok (.getfield 12, 3) := by decide +kernel
theorem d_Day_waitsWithin_9 : decode prog_5_method_17_code 9 = .ok (.invokevirtual 96, 3) := by decide +kernel
theorem d_Day_waitsWithin_12 : decode prog_5_method_17_code 12 = .ok (.if_icmp .ge 39, 3) := by decide +kernel
theorem d_Day_waitsWithin_15 : decode prog_5_method_17_code 15 = .ok (.aload_n 0, 1) := by decide +kernel
theorem d_Day_waitsWithin_16 : decode prog_5_method_17_code 16 = .ok (.getfield 18, 3) := by decide +kernel
theorem d_Day_waitsWithin_19 : decode prog_5_method_17_code 19 = .ok (.iload_n 2, 1) := by decide +kernel
theorem d_Day_waitsWithin_20 : decode prog_5_method_17_code 20 = .ok (.iaload, 1) := by decide +kernel
theorem d_Day_waitsWithin_21 : decode prog_5_method_17_code 21 = .ok (.bipush (-2), 2) := by decide +kernel
theorem d_Day_waitsWithin_23 : decode prog_5_method_17_code 23 = .ok (.if_icmp .eq 22, 3) := by decide +kernel
theorem d_Day_waitsWithin_26 : decode prog_5_method_17_code 26 = .ok (.iload_n 1, 1) := by decide +kernel
theorem d_Day_waitsWithin_27 : decode prog_5_method_17_code 27 = .ok (.aload_n 0, 1) := by decide +kernel
theorem d_Day_waitsWithin_28 : decode prog_5_method_17_code 28 = .ok (.getfield 18, 3) := by decide +kernel
theorem d_Day_waitsWithin_31 : decode prog_5_method_17_code 31 = .ok (.iload_n 2, 1) := by decide +kernel
theorem d_Day_waitsWithin_32 : decode prog_5_method_17_code 32 = .ok (.iaload, 1) := by decide +kernel
theorem d_Day_waitsWithin_33 : decode prog_5_method_17_code 33 = .ok (.aload_n 0, 1) := by decide +kernel
theorem d_Day_waitsWithin_34 : decode prog_5_method_17_code 34 = .ok (.getfield 12, 3) := by decide +kernel
theorem d_Day_waitsWithin_37 : decode prog_5_method_17_code 37 = .ok (.iconst 1, 1) := by decide +kernel
theorem d_Day_waitsWithin_38 : decode prog_5_method_17_code 38 = .ok (.iload_n 2, 1) := by decide +kernel
theorem d_Day_waitsWithin_39 : decode prog_5_method_17_code 39 = .ok (.invokevirtual 90, 3) := by decide +kernel
theorem d_Day_waitsWithin_42 : decode prog_5_method_17_code 42 = .ok (.isub, 1) := by decide +kernel
theorem d_Day_waitsWithin_43 : decode prog_5_method_17_code 43 = .ok (.iadd, 1) := by decide +kernel
theorem d_Day_waitsWithin_44 : decode prog_5_method_17_code 44 = .ok (.istore_n 1, 1) := by decide +kernel
theorem d_Day_waitsWithin_45 : decode prog_5_method_17_code 45 = .ok (.iinc 2 1, 3) := by decide +kernel
theorem d_Day_waitsWithin_48 : decode prog_5_method_17_code 48 = .ok (.goto (-44), 3) := by decide +kernel
theorem d_Day_waitsWithin_51 : decode prog_5_method_17_code 51 = .ok (.iload_n 1, 1) := by decide +kernel
theorem d_Day_waitsWithin_52 : decode prog_5_method_17_code 52 = .ok (.ireturn, 1) := by decide +kernel
theorem d_Day_heightsWithin_0 : decode prog_5_method_18_code 0 = .ok (.iconst 0, 1) := by decide +kernel
theorem d_Day_heightsWithin_1 : decode prog_5_method_18_code 1 = .ok (.istore_n 1, 1) := by decide +kernel
theorem d_Day_heightsWithin_2 : decode prog_5_method_18_code 2 = .ok (.iconst 0, 1) := by decide +kernel
theorem d_Day_heightsWithin_3 : decode prog_5_method_18_code 3 = .ok (.istore_n 2, 1) := by decide +kernel
theorem d_Day_heightsWithin_4 : decode prog_5_method_18_code 4 = .ok (.iload_n 2, 1) := by decide +kernel
theorem d_Day_heightsWithin_5 : decode prog_5_method_18_code 5 = .ok (.aload_n 0, 1) := by decide +kernel
theorem d_Day_heightsWithin_6 : decode prog_5_method_18_code 6 = .ok (.getfield 12, 3) := by decide +kernel
theorem d_Day_heightsWithin_9 : decode prog_5_method_18_code 9 = .ok (.invokevirtual 96, 3) := by decide +kernel
theorem d_Day_heightsWithin_12 : decode prog_5_method_18_code 12 = .ok (.if_icmp .ge 32, 3) := by decide +kernel
theorem d_Day_heightsWithin_15 : decode prog_5_method_18_code 15 = .ok (.aload_n 0, 1) := by decide +kernel
theorem d_Day_heightsWithin_16 : decode prog_5_method_18_code 16 = .ok (.getfield 18, 3) := by decide +kernel
theorem d_Day_heightsWithin_19 : decode prog_5_method_18_code 19 = .ok (.iload_n 2, 1) := by decide +kernel
theorem d_Day_heightsWithin_20 : decode prog_5_method_18_code 20 = .ok (.iaload, 1) := by decide +kernel
theorem d_Day_heightsWithin_21 : decode prog_5_method_18_code 21 = .ok (.bipush (-2), 2) := by decide +kernel
theorem d_Day_heightsWithin_23 : decode prog_5_method_18_code 23 = .ok (.if_icmp .eq 15, 3) := by decide +kernel
theorem d_Day_heightsWithin_26 : decode prog_5_method_18_code 26 = .ok (.iload_n 1, 1) := by decide +kernel
theorem d_Day_heightsWithin_27 : decode prog_5_method_18_code 27 = .ok (.aload_n 0, 1) := by decide +kernel
theorem d_Day_heightsWithin_28 : decode prog_5_method_18_code 28 = .ok (.getfield 12, 3) := by decide +kernel
theorem d_Day_heightsWithin_31 : decode prog_5_method_18_code 31 = .ok (.iconst 0, 1) := by decide +kernel
theorem d_Day_heightsWithin_32 : decode prog_5_method_18_code 32 = .ok (.iload_n 2, 1) := by decide +kernel
theorem d_Day_heightsWithin_33 : decode prog_5_method_18_code 33 = .ok (.invokevirtual 90, 3) := by decide +kernel
theorem d_Day_heightsWithin_36 : decode prog_5_method_18_code 36 = .ok (.iadd, 1) := by decide +kernel
theorem d_Day_heightsWithin_37 : decode prog_5_method_18_code 37 = .ok (.istore_n 1, 1) := by decide +kernel
theorem d_Day_heightsWithin_38 : decode prog_5_method_18_code 38 = .ok (.iinc 2 1, 3) := by decide +kernel
theorem d_Day_heightsWithin_41 : decode prog_5_method_18_code 41 = .ok (.goto (-37), 3) := by decide +kernel
theorem d_Day_heightsWithin_44 : decode prog_5_method_18_code 44 = .ok (.iload_n 1, 1) := by decide +kernel
theorem d_Day_heightsWithin_45 : decode prog_5_method_18_code 45 = .ok (.ireturn, 1) := by decide +kernel
theorem d_Day_lastIn_0 : decode prog_5_method_19_code 0 = .ok (.aload_n 0, 1) := by decide +kernel
theorem d_Day_lastIn_1 : decode prog_5_method_19_code 1 = .ok (.getfield 22, 3) := by decide +kernel
theorem d_Day_lastIn_4 : decode prog_5_method_19_code 4 = .ok (.ifCond .eq 6, 3) := by decide +kernel
theorem d_Day_lastIn_7 : decode prog_5_method_19_code 7 = .ok (.bipush (-2), 2) := by decide +kernel
theorem d_Day_lastIn_9 : decode prog_5_method_19_code 9 = .ok (.ireturn, 1) := by decide +kernel
theorem d_Day_lastIn_10 : decode prog_5_method_19_code 10 = .ok (.iconst 0, 1) := by decide +kernel
theorem d_Day_lastIn_11 : decode prog_5_method_19_code 11 = .ok (.istore_n 1, 1) := by decide +kernel
theorem d_Day_lastIn_12 : decode prog_5_method_19_code 12 = .ok (.iconst 0, 1) := by decide +kernel
theorem d_Day_lastIn_13 : decode prog_5_method_19_code 13 = .ok (.istore_n 2, 1) := by decide +kernel
theorem d_Day_lastIn_14 : decode prog_5_method_19_code 14 = .ok (.iload_n 2, 1) := by decide +kernel
theorem d_Day_lastIn_15 : decode prog_5_method_19_code 15 = .ok (.aload_n 0, 1) := by decide +kernel
theorem d_Day_lastIn_16 : decode prog_5_method_19_code 16 = .ok (.getfield 12, 3) := by decide +kernel
theorem d_Day_lastIn_19 : decode prog_5_method_19_code 19 = .ok (.invokevirtual 96, 3) := by decide +kernel
theorem d_Day_lastIn_22 : decode prog_5_method_19_code 22 = .ok (.if_icmp .ge 20, 3) := by decide +kernel
theorem d_Day_lastIn_25 : decode prog_5_method_19_code 25 = .ok (.iload_n 1, 1) := by decide +kernel
theorem d_Day_lastIn_26 : decode prog_5_method_19_code 26 = .ok (.aload_n 0, 1) := by decide +kernel
theorem d_Day_lastIn_27 : decode prog_5_method_19_code 27 = .ok (.getfield 18, 3) := by decide +kernel
theorem d_Day_lastIn_30 : decode prog_5_method_19_code 30 = .ok (.iload_n 2, 1) := by decide +kernel
theorem d_Day_lastIn_31 : decode prog_5_method_19_code 31 = .ok (.iaload, 1) := by decide +kernel
theorem d_Day_lastIn_32 : decode prog_5_method_19_code 32 = .ok (.invokestatic 71, 3) := by decide +kernel
theorem d_Day_lastIn_35 : decode prog_5_method_19_code 35 = .ok (.istore_n 1, 1) := by decide +kernel
theorem d_Day_lastIn_36 : decode prog_5_method_19_code 36 = .ok (.iinc 2 1, 3) := by decide +kernel
theorem d_Day_lastIn_39 : decode prog_5_method_19_code 39 = .ok (.goto (-25), 3) := by decide +kernel
theorem d_Day_lastIn_42 : decode prog_5_method_19_code 42 = .ok (.iload_n 1, 1) := by decide +kernel
theorem d_Day_lastIn_43 : decode prog_5_method_19_code 43 = .ok (.ireturn, 1) := by decide +kernel
theorem d_Deed_init_0 : decode prog_6_method_1_code 0 = .ok (.aload_n 0, 1) := by decide +kernel
theorem d_Deed_init_1 : decode prog_6_method_1_code 1 = .ok (.invokespecial 3, 3) := by decide +kernel
theorem d_Deed_init_4 : decode prog_6_method_1_code 4 = .ok (.aload_n 0, 1) := by decide +kernel
theorem d_Deed_init_5 : decode prog_6_method_1_code 5 = .ok (.bipush 8, 2) := by decide +kernel
theorem d_Deed_init_7 : decode prog_6_method_1_code 7 = .ok (.newarray .int, 2) := by decide +kernel
theorem d_Deed_init_9 : decode prog_6_method_1_code 9 = .ok (.putfield 11, 3) := by decide +kernel
theorem d_Deed_init_12 : decode prog_6_method_1_code 12 = .ok (.aload_n 0, 1) := by decide +kernel
theorem d_Deed_init_13 : decode prog_6_method_1_code 13 = .ok (.bipush 12, 2) := by decide +kernel
theorem d_Deed_init_15 : decode prog_6_method_1_code 15 = .ok (.newarray .int, 2) := by decide +kernel
theorem d_Deed_init_17 : decode prog_6_method_1_code 17 = .ok (.putfield 17, 3) := by decide +kernel
theorem d_Deed_init_20 : decode prog_6_method_1_code 20 = .ok (.aload_n 0, 1) := by decide +kernel
theorem d_Deed_init_21 : decode prog_6_method_1_code 21 = .ok (.bipush 8, 2) := by decide +kernel
theorem d_Deed_init_23 : decode prog_6_method_1_code 23 = .ok (.newarray .int, 2) := by decide +kernel
theorem d_Deed_init_25 : decode prog_6_method_1_code 25 = .ok (.putfield 20, 3) := by decide +kernel
theorem d_Deed_init_28 : decode prog_6_method_1_code 28 = .ok (.aload_n 0, 1) := by decide +kernel
theorem d_Deed_init_29 : decode prog_6_method_1_code 29 = .ok (.bipush 12, 2) := by decide +kernel
theorem d_Deed_init_31 : decode prog_6_method_1_code 31 = .ok (.newarray .int, 2) := by decide +kernel
theorem d_Deed_init_33 : decode prog_6_method_1_code 33 = .ok (.putfield 23, 3) := by decide +kernel
theorem d_Deed_init_36 : decode prog_6_method_1_code 36 = .ok (.aload_n 0, 1) := by decide +kernel
theorem d_Deed_init_37 : decode prog_6_method_1_code 37 = .ok (.iconst 0, 1) := by decide +kernel
theorem d_Deed_init_38 : decode prog_6_method_1_code 38 = .ok (.putfield 26, 3) := by decide +kernel
theorem d_Deed_init_41 : decode prog_6_method_1_code 41 = .ok (.aload_n 0, 1) := by decide +kernel
theorem d_Deed_init_42 : decode prog_6_method_1_code 42 = .ok (.aload_n 1, 1) := by decide +kernel
theorem d_Deed_init_43 : decode prog_6_method_1_code 43 = .ok (.putfield 30, 3) := by decide +kernel
theorem d_Deed_init_46 : decode prog_6_method_1_code 46 = .ok (.aload_n 0, 1) := by decide +kernel
theorem d_Deed_init_47 : decode prog_6_method_1_code 47 = .ok (.aload_n 2, 1) := by decide +kernel
theorem d_Deed_init_48 : decode prog_6_method_1_code 48 = .ok (.putfield 34, 3) := by decide +kernel
theorem d_Deed_init_51 : decode prog_6_method_1_code 51 = .ok (.aload_n 0, 1) := by decide +kernel
theorem d_Deed_init_52 : decode prog_6_method_1_code 52 = .ok (.getfield 17, 3) := by decide +kernel
theorem d_Deed_init_55 : decode prog_6_method_1_code 55 = .ok (.bipush (-2), 2) := by decide +kernel
theorem d_Deed_init_57 : decode prog_6_method_1_code 57 = .ok (.invokestatic 38, 3) := by decide +kernel
theorem d_Deed_init_60 : decode prog_6_method_1_code 60 = .ok (.return_, 1) := by decide +kernel
theorem d_Deed_leads_0 : decode prog_6_method_2_code 0 = .ok (.iload_n 1, 1) := by decide +kernel
theorem d_Deed_leads_1 : decode prog_6_method_2_code 1 = .ok (.ifCond .lt 17, 3) := by decide +kernel
theorem d_Deed_leads_4 : decode prog_6_method_2_code 4 = .ok (.iload_n 1, 1) := by decide +kernel
theorem d_Deed_leads_5 : decode prog_6_method_2_code 5 = .ok (.iconst 5, 1) := by decide +kernel
theorem d_Deed_leads_6 : decode prog_6_method_2_code 6 = .ok (.if_icmp .gt 12, 3) := by decide +kernel
theorem d_Deed_leads_9 : decode prog_6_method_2_code 9 = .ok (.aload_n 0, 1) := by decide +kernel
theorem d_Deed_leads_10 : decode prog_6_method_2_code 10 = .ok (.getfield 11, 3) := by decide +kernel
theorem d_Deed_leads_13 : decode prog_6_method_2_code 13 = .ok (.iload_n 1, 1) := by decide +kernel
theorem d_Deed_leads_14 : decode prog_6_method_2_code 14 = .ok (.iaload, 1) := by decide +kernel
theorem d_Deed_leads_15 : decode prog_6_method_2_code 15 = .ok (.goto 4, 3) := by decide +kernel
theorem d_Deed_leads_18 : decode prog_6_method_2_code 18 = .ok (.iconst 0, 1) := by decide +kernel
theorem d_Deed_leads_19 : decode prog_6_method_2_code 19 = .ok (.ireturn, 1) := by decide +kernel
theorem d_Deed_waitingNow_0 : decode prog_6_method_3_code 0 = .ok (.aload_n 0, 1) := by decide +kernel
theorem d_Deed_waitingNow_1 : decode prog_6_method_3_code 1 = .ok (.getfield 30, 3) := by decide +kernel
theorem d_Deed_waitingNow_4 : decode prog_6_method_3_code 4 = .ok (.aload_n 0, 1) := by decide +kernel
theorem d_Deed_waitingNow_5 : decode prog_6_method_3_code 5 = .ok (.getfield 11, 3) := by decide +kernel
theorem d_Deed_waitingNow_8 : decode prog_6_method_3_code 8 = .ok (.iconst 5, 1) := by decide +kernel
theorem d_Deed_waitingNow_9 : decode prog_6_method_3_code 9 = .ok (.iaload, 1) := by decide +kernel
theorem d_Deed_waitingNow_10 : decode prog_6_method_3_code 10 = .ok (.aload_n 0, 1) := by decide +kernel
theorem d_Deed_waitingNow_11 : decode prog_6_method_3_code 11 = .ok (.getfield 30, 3) := by decide +kernel
theorem d_Deed_waitingNow_14 : decode prog_6_method_3_code 14 = .ok (.invokevirtual 44, 3) := by decide +kernel
theorem d_Deed_waitingNow_17 : decode prog_6_method_3_code 17 = .ok (.aload_n 0, 1) := by decide +kernel
theorem d_Deed_waitingNow_18 : decode prog_6_method_3_code 18 = .ok (.getfield 11, 3) := by decide +kernel
theorem d_Deed_waitingNow_21 : decode prog_6_method_3_code 21 = .ok (.bipush 6, 2) := by decide +kernel
theorem d_Deed_waitingNow_23 : decode prog_6_method_3_code 23 = .ok (.iaload, 1) := by decide +kernel
theorem d_Deed_waitingNow_24 : decode prog_6_method_3_code 24 = .ok (.iconst (-1), 1) := by decide +kernel
theorem d_Deed_waitingNow_25 : decode prog_6_method_3_code 25 = .ok (.ixor, 1) := by decide +kernel
theorem d_Deed_waitingNow_26 : decode prog_6_method_3_code 26 = .ok (.iand, 1) := by decide +kernel
theorem d_Deed_waitingNow_27 : decode prog_6_method_3_code 27 = .ok (.aload_n 0, 1) := by decide +kernel
theorem d_Deed_waitingNow_28 : decode prog_6_method_3_code 28 = .ok (.getfield 11, 3) := by decide +kernel
theorem d_Deed_waitingNow_31 : decode prog_6_method_3_code 31 = .ok (.bipush 7, 2) := by decide +kernel
theorem d_Deed_waitingNow_33 : decode prog_6_method_3_code 33 = .ok (.iaload, 1) := by decide +kernel
theorem d_Deed_waitingNow_34 : decode prog_6_method_3_code 34 = .ok (.iconst (-1), 1) := by decide +kernel
theorem d_Deed_waitingNow_35 : decode prog_6_method_3_code 35 = .ok (.ixor, 1) := by decide +kernel
theorem d_Deed_waitingNow_36 : decode prog_6_method_3_code 36 = .ok (.iand, 1) := by decide +kernel
theorem d_Deed_waitingNow_37 : decode prog_6_method_3_code 37 = .ok (.invokevirtual 48, 3) := by decide +kernel
theorem d_Deed_waitingNow_40 : decode prog_6_method_3_code 40 = .ok (.ireturn, 1) := by decide +kernel
theorem d_Deed_numberIn_0 : decode prog_6_method_4_code 0 = .ok (.aload_n 0, 1) := by decide +kernel
theorem d_Deed_numberIn_1 : decode prog_6_method_4_code 1 = .ok (.getfield 11, 3) := by decide +kernel
theorem d_Deed_numberIn_4 : decode prog_6_method_4_code 4 = .ok (.bipush 6, 2) := by decide +kernel
theorem d_Deed_numberIn_6 : decode prog_6_method_4_code 6 = .ok (.iaload, 1) := by decide +kernel
theorem d_Deed_numberIn_7 : decode prog_6_method_4_code 7 = .ok (.invokestatic 52, 3) := by decide +kernel
theorem d_Deed_numberIn_10 : decode prog_6_method_4_code 10 = .ok (.ireturn, 1) := by decide +kernel
theorem d_Deed_inSince_0 : decode prog_6_method_5_code 0 = .ok (.iload_n 1, 1) := by decide +kernel
theorem d_Deed_inSince_1 : decode prog_6_method_5_code 1 = .ok (.ifCond .lt 18, 3) := by decide +kernel
theorem d_Deed_inSince_4 : decode prog_6_method_5_code 4 = .ok (.iload_n 1, 1) := by decide +kernel
theorem d_Deed_inSince_5 : decode prog_6_method_5_code 5 = .ok (.bipush 12, 2) := by decide +kernel
theorem d_Deed_inSince_7 : decode prog_6_method_5_code 7 = .ok (.if_icmp .ge 12, 3) := by decide +kernel
theorem d_Deed_inSince_10 : decode prog_6_method_5_code 10 = .ok (.aload_n 0, 1) := by decide +kernel
theorem d_Deed_inSince_11 : decode prog_6_method_5_code 11 = .ok (.getfield 17, 3) := by decide +kernel
theorem d_Deed_inSince_14 : decode prog_6_method_5_code 14 = .ok (.iload_n 1, 1) := by decide +kernel
theorem d_Deed_inSince_15 : decode prog_6_method_5_code 15 = .ok (.iaload, 1) := by decide +kernel
theorem d_Deed_inSince_16 : decode prog_6_method_5_code 16 = .ok (.goto 5, 3) := by decide +kernel
theorem d_Deed_inSince_19 : decode prog_6_method_5_code 19 = .ok (.bipush (-2), 2) := by decide +kernel
theorem d_Deed_inSince_21 : decode prog_6_method_5_code 21 = .ok (.ireturn, 1) := by decide +kernel
theorem d_Deed_opensNow_0 : decode prog_6_method_6_code 0 = .ok (.aload_n 0, 1) := by decide +kernel
theorem d_Deed_opensNow_1 : decode prog_6_method_6_code 1 = .ok (.invokevirtual 58, 3) := by decide +kernel
theorem d_Deed_opensNow_4 : decode prog_6_method_6_code 4 = .ok (.istore_n 1, 1) := by decide +kernel
theorem d_Deed_opensNow_5 : decode prog_6_method_6_code 5 = .ok (.aload_n 0, 1) := by decide +kernel
theorem d_Deed_opensNow_6 : decode prog_6_method_6_code 6 = .ok (.getfield 34, 3) := by decide +kernel
theorem d_Deed_opensNow_9 : decode prog_6_method_6_code 9 = .ok (.aload_n 0, 1) := by decide +kernel
theorem d_Deed_opensNow_10 : decode prog_6_method_6_code 10 = .ok (.getfield 30, 3) := by decide +kernel
theorem d_Deed_opensNow_13 : decode prog_6_method_6_code 13 = .ok (.aload_n 0, 1) := by decide +kernel
theorem d_Deed_opensNow_14 : decode prog_6_method_6_code 14 = .ok (.getfield 11, 3) := by decide +kernel
theorem d_Deed_opensNow_17 : decode prog_6_method_6_code 17 = .ok (.iconst 5, 1) := by decide +kernel
theorem d_Deed_opensNow_18 : decode prog_6_method_6_code 18 = .ok (.iaload, 1) := by decide +kernel
theorem d_Deed_opensNow_19 : decode prog_6_method_6_code 19 = .ok (.iload_n 1, 1) := by decide +kernel
theorem d_Deed_opensNow_20 : decode prog_6_method_6_code 20 = .ok (.iconst 5, 1) := by decide +kernel
theorem d_Deed_opensNow_21 : decode prog_6_method_6_code 21 = .ok (.invokevirtual 63, 3) := by decide +kernel
theorem d_Deed_opensNow_24 : decode prog_6_method_6_code 24 = .ok (.istore_n 2, 1) := by decide +kernel
theorem d_Deed_opensNow_25 : decode prog_6_method_6_code 25 = .ok (.aload_n 0, 1) := by decide +kernel
theorem d_Deed_opensNow_26 : decode prog_6_method_6_code 26 = .ok (.getfield 11, 3) := by decide +kernel
theorem d_Deed_opensNow_29 : decode prog_6_method_6_code 29 = .ok (.iconst 4, 1) := by decide +kernel
theorem d_Deed_opensNow_30 : decode prog_6_method_6_code 30 = .ok (.aload_n 0, 1) := by decide +kernel
theorem d_Deed_opensNow_31 : decode prog_6_method_6_code 31 = .ok (.getfield 11, 3) := by decide +kernel
theorem d_Deed_opensNow_34 : decode prog_6_method_6_code 34 = .ok (.iconst 4, 1) := by decide +kernel
theorem d_Deed_opensNow_35 : decode prog_6_method_6_code 35 = .ok (.iaload, 1) := by decide +kernel
theorem d_Deed_opensNow_36 : decode prog_6_method_6_code 36 = .ok (.iload_n 1, 1) := by decide +kernel
theorem d_Deed_opensNow_37 : decode prog_6_method_6_code 37 = .ok (.invokestatic 52, 3) := by decide +kernel
theorem d_Deed_opensNow_40 : decode prog_6_method_6_code 40 = .ok (.invokestatic 67, 3) := by decide +kernel
theorem d_Deed_opensNow_43 : decode prog_6_method_6_code 43 = .ok (.iastore, 1) := by decide +kernel
theorem d_Deed_opensNow_44 : decode prog_6_method_6_code 44 = .ok (.iload_n 2, 1) := by decide +kernel
theorem d_Deed_opensNow_45 : decode prog_6_method_6_code 45 = .ok (.ifCond .lt 44, 3) := by decide +kernel
theorem d_Deed_opensNow_48 : decode prog_6_method_6_code 48 = .ok (.iload_n 2, 1) := by decide +kernel
theorem d_Deed_opensNow_49 : decode prog_6_method_6_code 49 = .ok (.bipush 12, 2) := by decide +kernel
theorem d_Deed_opensNow_51 : decode prog_6_method_6_code 51 = .ok (.if_icmp .ge 38, 3) := by decide +kernel
theorem d_Deed_opensNow_54 : decode prog_6_method_6_code 54 = .ok (.aload_n 0, 1) := by decide +kernel
theorem d_Deed_opensNow_55 : decode prog_6_method_6_code 55 = .ok (.getfield 17, 3) := by decide +kernel
theorem d_Deed_opensNow_58 : decode prog_6_method_6_code 58 = .ok (.iload_n 2, 1) := by decide +kernel
theorem d_Deed_opensNow_59 : decode prog_6_method_6_code 59 = .ok (.aload_n 0, 1) := by decide +kernel
theorem d_Deed_opensNow_60 : decode prog_6_method_6_code 60 = .ok (.getfield 11, 3) := by decide +kernel
theorem d_Deed_opensNow_63 : decode prog_6_method_6_code 63 = .ok (.iconst 5, 1) := by decide +kernel
theorem d_Deed_opensNow_64 : decode prog_6_method_6_code 64 = .ok (.iaload, 1) := by decide +kernel
theorem d_Deed_opensNow_65 : decode prog_6_method_6_code 65 = .ok (.iastore, 1) := by decide +kernel
theorem d_Deed_opensNow_66 : decode prog_6_method_6_code 66 = .ok (.aload_n 0, 1) := by decide +kernel
theorem d_Deed_opensNow_67 : decode prog_6_method_6_code 67 = .ok (.getfield 11, 3) := by decide +kernel
theorem d_Deed_opensNow_70 : decode prog_6_method_6_code 70 = .ok (.bipush 6, 2) := by decide +kernel
theorem d_Deed_opensNow_72 : decode prog_6_method_6_code 72 = .ok (.dup2, 1) := by decide +kernel
theorem d_Deed_opensNow_73 : decode prog_6_method_6_code 73 = .ok (.iaload, 1) := by decide +kernel
theorem d_Deed_opensNow_74 : decode prog_6_method_6_code 74 = .ok (.iconst 1, 1) := by decide +kernel
theorem d_Deed_opensNow_75 : decode prog_6_method_6_code 75 = .ok (.iload_n 2, 1) := by decide +kernel
theorem d_Deed_opensNow_76 : decode prog_6_method_6_code 76 = .ok (.ishl, 1) := by decide +kernel
theorem d_Deed_opensNow_77 : decode prog_6_method_6_code 77 = .ok (.ior, 1) := by decide +kernel
theorem d_Deed_opensNow_78 : decode prog_6_method_6_code 78 = .ok (.iastore, 1) := by decide +kernel
theorem d_Deed_opensNow_79 : decode prog_6_method_6_code 79 = .ok (.aload_n 0, 1) := by decide +kernel
theorem d_Deed_opensNow_80 : decode prog_6_method_6_code 80 = .ok (.getfield 11, 3) := by decide +kernel
theorem d_Deed_opensNow_83 : decode prog_6_method_6_code 83 = .ok (.iconst 1, 1) := by decide +kernel
theorem d_Deed_opensNow_84 : decode prog_6_method_6_code 84 = .ok (.dup2, 1) := by decide +kernel
theorem d_Deed_opensNow_85 : decode prog_6_method_6_code 85 = .ok (.iaload, 1) := by decide +kernel
theorem d_Deed_opensNow_86 : decode prog_6_method_6_code 86 = .ok (.iconst 1, 1) := by decide +kernel
theorem d_Deed_opensNow_87 : decode prog_6_method_6_code 87 = .ok (.iadd, 1) := by decide +kernel
theorem d_Deed_opensNow_88 : decode prog_6_method_6_code 88 = .ok (.iastore, 1) := by decide +kernel
theorem d_Deed_opensNow_89 : decode prog_6_method_6_code 89 = .ok (.aload_n 0, 1) := by decide +kernel
theorem d_Deed_opensNow_90 : decode prog_6_method_6_code 90 = .ok (.getfield 11, 3) := by decide +kernel
theorem d_Deed_opensNow_93 : decode prog_6_method_6_code 93 = .ok (.iconst 0, 1) := by decide +kernel
theorem d_Deed_opensNow_94 : decode prog_6_method_6_code 94 = .ok (.dup2, 1) := by decide +kernel
theorem d_Deed_opensNow_95 : decode prog_6_method_6_code 95 = .ok (.iaload, 1) := by decide +kernel
theorem d_Deed_opensNow_96 : decode prog_6_method_6_code 96 = .ok (.iconst 1, 1) := by decide +kernel
theorem d_Deed_opensNow_97 : decode prog_6_method_6_code 97 = .ok (.iadd, 1) := by decide +kernel
theorem d_Deed_opensNow_98 : decode prog_6_method_6_code 98 = .ok (.iastore, 1) := by decide +kernel
theorem d_Deed_opensNow_99 : decode prog_6_method_6_code 99 = .ok (.aload_n 0, 1) := by decide +kernel
theorem d_Deed_opensNow_100 : decode prog_6_method_6_code 100 = .ok (.getfield 11, 3) := by decide +kernel
theorem d_Deed_opensNow_103 : decode prog_6_method_6_code 103 = .ok (.iconst 5, 1) := by decide +kernel
theorem d_Deed_opensNow_104 : decode prog_6_method_6_code 104 = .ok (.dup2, 1) := by decide +kernel
theorem d_Deed_opensNow_105 : decode prog_6_method_6_code 105 = .ok (.iaload, 1) := by decide +kernel
theorem d_Deed_opensNow_106 : decode prog_6_method_6_code 106 = .ok (.iconst 1, 1) := by decide +kernel
theorem d_Deed_opensNow_107 : decode prog_6_method_6_code 107 = .ok (.iadd, 1) := by decide +kernel
theorem d_Deed_opensNow_108 : decode prog_6_method_6_code 108 = .ok (.iastore, 1) := by decide +kernel
theorem d_Deed_opensNow_109 : decode prog_6_method_6_code 109 = .ok (.iload_n 2, 1) := by decide +kernel
theorem d_Deed_opensNow_110 : decode prog_6_method_6_code 110 = .ok (.ireturn, 1) := by decide +kernel
theorem d_Deed_sendsAway_0 : decode prog_6_method_7_code 0 = .ok (.aload_n 0, 1) := by decide +kernel
theorem d_Deed_sendsAway_1 : decode prog_6_method_7_code 1 = .ok (.getfield 11, 3) := by decide +kernel
theorem d_Deed_sendsAway_4 : decode prog_6_method_7_code 4 = .ok (.bipush 7, 2) := by decide +kernel
theorem d_Deed_sendsAway_6 : decode prog_6_method_7_code 6 = .ok (.dup2, 1) := by decide +kernel
theorem d_Deed_sendsAway_7 : decode prog_6_method_7_code 7 = .ok (.iaload, 1) := by decide +kernel
theorem d_Deed_sendsAway_8 : decode prog_6_method_7_code 8 = .ok (.iconst 1, 1) := by decide +kernel
theorem d_Deed_sendsAway_9 : decode prog_6_method_7_code 9 = .ok (.iload_n 1, 1) := by decide +kernel
theorem d_Deed_sendsAway_10 : decode prog_6_method_7_code 10 = .ok (.ishl, 1) := by decide +kernel
theorem d_Deed_sendsAway_11 : decode prog_6_method_7_code 11 = .ok (.ior, 1) := by decide +kernel
theorem d_Deed_sendsAway_12 : decode prog_6_method_7_code 12 = .ok (.iastore, 1) := by decide +kernel
theorem d_Deed_sendsAway_13 : decode prog_6_method_7_code 13 = .ok (.aload_n 0, 1) := by decide +kernel
theorem d_Deed_sendsAway_14 : decode prog_6_method_7_code 14 = .ok (.getfield 11, 3) := by decide +kernel
theorem d_Deed_sendsAway_17 : decode prog_6_method_7_code 17 = .ok (.iconst 2, 1) := by decide +kernel
theorem d_Deed_sendsAway_18 : decode prog_6_method_7_code 18 = .ok (.dup2, 1) := by decide +kernel
theorem d_Deed_sendsAway_19 : decode prog_6_method_7_code 19 = .ok (.iaload, 1) := by decide +kernel
theorem d_Deed_sendsAway_20 : decode prog_6_method_7_code 20 = .ok (.iconst 1, 1) := by decide +kernel
theorem d_Deed_sendsAway_21 : decode prog_6_method_7_code 21 = .ok (.iadd, 1) := by decide +kernel
theorem d_Deed_sendsAway_22 : decode prog_6_method_7_code 22 = .ok (.iastore, 1) := by decide +kernel
theorem d_Deed_sendsAway_23 : decode prog_6_method_7_code 23 = .ok (.aload_n 0, 1) := by decide +kernel
theorem d_Deed_sendsAway_24 : decode prog_6_method_7_code 24 = .ok (.getfield 11, 3) := by decide +kernel
theorem d_Deed_sendsAway_27 : decode prog_6_method_7_code 27 = .ok (.iconst 5, 1) := by decide +kernel
theorem d_Deed_sendsAway_28 : decode prog_6_method_7_code 28 = .ok (.iaload, 1) := by decide +kernel
theorem d_Deed_sendsAway_29 : decode prog_6_method_7_code 29 = .ok (.ireturn, 1) := by decide +kernel
theorem d_Deed_dawns_0 : decode prog_6_method_8_code 0 = .ok (.aload_n 0, 1) := by decide +kernel
theorem d_Deed_dawns_1 : decode prog_6_method_8_code 1 = .ok (.invokevirtual 72, 3) := by decide +kernel
theorem d_Deed_dawns_4 : decode prog_6_method_8_code 4 = .ok (.istore_n 1, 1) := by decide +kernel
theorem d_Deed_dawns_5 : decode prog_6_method_8_code 5 = .ok (.aload_n 0, 1) := by decide +kernel
theorem d_Deed_dawns_6 : decode prog_6_method_8_code 6 = .ok (.getfield 11, 3) := by decide +kernel
theorem d_Deed_dawns_9 : decode prog_6_method_8_code 9 = .ok (.iconst 5, 1) := by decide +kernel
theorem d_Deed_dawns_10 : decode prog_6_method_8_code 10 = .ok (.iconst 0, 1) := by decide +kernel
theorem d_Deed_dawns_11 : decode prog_6_method_8_code 11 = .ok (.iastore, 1) := by decide +kernel
theorem d_Deed_dawns_12 : decode prog_6_method_8_code 12 = .ok (.aload_n 0, 1) := by decide +kernel
theorem d_Deed_dawns_13 : decode prog_6_method_8_code 13 = .ok (.getfield 11, 3) := by decide +kernel
theorem d_Deed_dawns_16 : decode prog_6_method_8_code 16 = .ok (.bipush 6, 2) := by decide +kernel
theorem d_Deed_dawns_18 : decode prog_6_method_8_code 18 = .ok (.iconst 0, 1) := by decide +kernel
theorem d_Deed_dawns_19 : decode prog_6_method_8_code 19 = .ok (.iastore, 1) := by decide +kernel
theorem d_Deed_dawns_20 : decode prog_6_method_8_code 20 = .ok (.aload_n 0, 1) := by decide +kernel
theorem d_Deed_dawns_21 : decode prog_6_method_8_code 21 = .ok (.getfield 11, 3) := by decide +kernel
theorem d_Deed_dawns_24 : decode prog_6_method_8_code 24 = .ok (.bipush 7, 2) := by decide +kernel
theorem d_Deed_dawns_26 : decode prog_6_method_8_code 26 = .ok (.iconst 0, 1) := by decide +kernel
theorem d_Deed_dawns_27 : decode prog_6_method_8_code 27 = .ok (.iastore, 1) := by decide +kernel
theorem d_Deed_dawns_28 : decode prog_6_method_8_code 28 = .ok (.aload_n 0, 1) := by decide +kernel
theorem d_Deed_dawns_29 : decode prog_6_method_8_code 29 = .ok (.getfield 11, 3) := by decide +kernel
theorem d_Deed_dawns_32 : decode prog_6_method_8_code 32 = .ok (.iconst 3, 1) := by decide +kernel
theorem d_Deed_dawns_33 : decode prog_6_method_8_code 33 = .ok (.dup2, 1) := by decide +kernel
theorem d_Deed_dawns_34 : decode prog_6_method_8_code 34 = .ok (.iaload, 1) := by decide +kernel
theorem d_Deed_dawns_35 : decode prog_6_method_8_code 35 = .ok (.iconst 1, 1) := by decide +kernel
theorem d_Deed_dawns_36 : decode prog_6_method_8_code 36 = .ok (.iadd, 1) := by decide +kernel
theorem d_Deed_dawns_37 : decode prog_6_method_8_code 37 = .ok (.iastore, 1) := by decide +kernel
theorem d_Deed_dawns_38 : decode prog_6_method_8_code 38 = .ok (.aload_n 0, 1) := by decide +kernel
theorem d_Deed_dawns_39 : decode prog_6_method_8_code 39 = .ok (.getfield 17, 3) := by decide +kernel
theorem d_Deed_dawns_42 : decode prog_6_method_8_code 42 = .ok (.bipush (-2), 2) := by decide +kernel
theorem d_Deed_dawns_44 : decode prog_6_method_8_code 44 = .ok (.invokestatic 38, 3) := by decide +kernel
theorem d_Deed_dawns_47 : decode prog_6_method_8_code 47 = .ok (.iload_n 1, 1) := by decide +kernel
theorem d_Deed_dawns_48 : decode prog_6_method_8_code 48 = .ok (.ireturn, 1) := by decide +kernel
theorem d_Deed_hasImage_0 : decode prog_6_method_9_code 0 = .ok (.aload_n 0, 1) := by decide +kernel
theorem d_Deed_hasImage_1 : decode prog_6_method_9_code 1 = .ok (.getfield 26, 3) := by decide +kernel
theorem d_Deed_hasImage_4 : decode prog_6_method_9_code 4 = .ok (.ireturn, 1) := by decide +kernel
theorem d_Deed_keepsImage_0 : decode prog_6_method_10_code 0 = .ok (.aload_n 0, 1) := by decide +kernel
theorem d_Deed_keepsImage_1 : decode prog_6_method_10_code 1 = .ok (.getfield 11, 3) := by decide +kernel
theorem d_Deed_keepsImage_4 : decode prog_6_method_10_code 4 = .ok (.iconst 0, 1) := by decide +kernel
theorem d_Deed_keepsImage_5 : decode prog_6_method_10_code 5 = .ok (.aload_n 0, 1) := by decide +kernel
theorem d_Deed_keepsImage_6 : decode prog_6_method_10_code 6 = .ok (.getfield 20, 3) := by decide +kernel
theorem d_Deed_keepsImage_9 : decode prog_6_method_10_code 9 = .ok (.iconst 0, 1) := by decide +kernel
theorem d_Deed_keepsImage_10 : decode prog_6_method_10_code 10 = .ok (.bipush 8, 2) := by decide +kernel
theorem d_Deed_keepsImage_12 : decode prog_6_method_10_code 12 = .ok (.invokestatic 75, 3) := by decide +kernel
theorem d_Deed_keepsImage_15 : decode prog_6_method_10_code 15 = .ok (.aload_n 0, 1) := by decide +kernel
theorem d_Deed_keepsImage_16 : decode prog_6_method_10_code 16 = .ok (.getfield 17, 3) := by decide +kernel
theorem d_Deed_keepsImage_19 : decode prog_6_method_10_code 19 = .ok (.iconst 0, 1) := by decide +kernel
theorem d_Deed_keepsImage_20 : decode prog_6_method_10_code 20 = .ok (.aload_n 0, 1) := by decide +kernel
theorem d_Deed_keepsImage_21 : decode prog_6_method_10_code 21 = .ok (.getfield 23, 3) := by decide +kernel
theorem d_Deed_keepsImage_24 : decode prog_6_method_10_code 24 = .ok (.iconst 0, 1) := by decide +kernel
theorem d_Deed_keepsImage_25 : decode prog_6_method_10_code 25 = .ok (.bipush 12, 2) := by decide +kernel
theorem d_Deed_keepsImage_27 : decode prog_6_method_10_code 27 = .ok (.invokestatic 75, 3) := by decide +kernel
theorem d_Deed_keepsImage_30 : decode prog_6_method_10_code 30 = .ok (.aload_n 0, 1) := by decide +kernel
theorem d_Deed_keepsImage_31 : decode prog_6_method_10_code 31 = .ok (.iconst 1, 1) := by decide +kernel
theorem d_Deed_keepsImage_32 : decode prog_6_method_10_code 32 = .ok (.putfield 26, 3) := by decide +kernel
theorem d_Deed_keepsImage_35 : decode prog_6_method_10_code 35 = .ok (.aload_n 0, 1) := by decide +kernel
