theorem d_Ref_item_27 : decode prog_8_method_24_code 27 = .ok (.invokevirtual 107, 3) := by decide +kernel
theorem d_Ref_item_30 : decode prog_8_method_24_code 30 = .ok (.ifCond .ne 11, 3) := by decide +kernel
theorem d_Ref_item_33 : decode prog_8_method_24_code 33 = .ok (.aload_n 0, 1) := by decide +kernel
theorem d_Ref_item_34 : decode prog_8_method_24_code 34 = .ok (.iload_n 1, 1) := by decide +kernel
theorem d_Ref_item_35 : decode prog_8_method_24_code 35 = .ok (.invokevirtual 110, 3) := by decide +kernel
theorem d_Ref_item_38 : decode prog_8_method_24_code 38 = .ok (.ifCond .lt 5, 3) := by decide +kernel
theorem d_Ref_item_41 : decode prog_8_method_24_code 41 = .ok (.iconst 0, 1) := by decide +kernel
theorem d_Ref_item_42 : decode prog_8_method_24_code 42 = .ok (.ireturn, 1) := by decide +kernel
theorem d_Ref_item_43 : decode prog_8_method_24_code 43 = .ok (.aload_n 0, 1) := by decide +kernel
theorem d_Ref_item_44 : decode prog_8_method_24_code 44 = .ok (.getfield 32, 3) := by decide +kernel
theorem d_Ref_item_47 : decode prog_8_method_24_code 47 = .ok (.aload_n 0, 1) := by decide +kernel
theorem d_Ref_item_48 : decode prog_8_method_24_code 48 = .ok (.getfield 104, 3) := by decide +kernel
theorem d_Ref_item_51 : decode prog_8_method_24_code 51 = .ok (.iload_n 1, 1) := by decide +kernel
theorem d_Ref_item_52 : decode prog_8_method_24_code 52 = .ok (.iastore, 1) := by decide +kernel
theorem d_Ref_item_53 : decode prog_8_method_24_code 53 = .ok (.aload_n 0, 1) := by decide +kernel
theorem d_Ref_item_54 : decode prog_8_method_24_code 54 = .ok (.dup, 1) := by decide +kernel
theorem d_Ref_item_55 : decode prog_8_method_24_code 55 = .ok (.getfield 104, 3) := by decide +kernel
theorem d_Ref_item_58 : decode prog_8_method_24_code 58 = .ok (.iconst 1, 1) := by decide +kernel
theorem d_Ref_item_59 : decode prog_8_method_24_code 59 = .ok (.iadd, 1) := by decide +kernel
theorem d_Ref_item_60 : decode prog_8_method_24_code 60 = .ok (.putfield 104, 3) := by decide +kernel
theorem d_Ref_item_63 : decode prog_8_method_24_code 63 = .ok (.iconst 1, 1) := by decide +kernel
theorem d_Ref_item_64 : decode prog_8_method_24_code 64 = .ok (.ireturn, 1) := by decide +kernel
theorem d_Ref_newLine_0 : decode prog_8_method_25_code 0 = .ok (.aload_n 0, 1) := by decide +kernel
theorem d_Ref_newLine_1 : decode prog_8_method_25_code 1 = .ok (.iconst 0, 1) := by decide +kernel
theorem d_Ref_newLine_2 : decode prog_8_method_25_code 2 = .ok (.putfield 104, 3) := by decide +kernel
theorem d_Ref_newLine_5 : decode prog_8_method_25_code 5 = .ok (.return_, 1) := by decide +kernel
theorem d_Ref_isIn_0 : decode prog_8_method_26_code 0 = .ok (.iconst 0, 1) := by decide +kernel
theorem d_Ref_isIn_1 : decode prog_8_method_26_code 1 = .ok (.istore_n 2, 1) := by decide +kernel
theorem d_Ref_isIn_2 : decode prog_8_method_26_code 2 = .ok (.iconst 0, 1) := by decide +kernel
theorem d_Ref_isIn_3 : decode prog_8_method_26_code 3 = .ok (.istore_n 3, 1) := by decide +kernel
theorem d_Ref_isIn_4 : decode prog_8_method_26_code 4 = .ok (.iload_n 3, 1) := by decide +kernel
theorem d_Ref_isIn_5 : decode prog_8_method_26_code 5 = .ok (.aload_n 0, 1) := by decide +kernel
theorem d_Ref_isIn_6 : decode prog_8_method_26_code 6 = .ok (.getfield 116, 3) := by decide +kernel
theorem d_Ref_isIn_9 : decode prog_8_method_26_code 9 = .ok (.if_icmp .ge 29, 3) := by decide +kernel
theorem d_Ref_isIn_12 : decode prog_8_method_26_code 12 = .ok (.iload_n 2, 1) := by decide +kernel
theorem d_Ref_isIn_13 : decode prog_8_method_26_code 13 = .ok (.ifCond .ne 13, 3) := by decide +kernel
theorem d_Ref_isIn_16 : decode prog_8_method_26_code 16 = .ok (.aload_n 0, 1) := by decide +kernel
theorem d_Ref_isIn_17 : decode prog_8_method_26_code 17 = .ok (.getfield 39, 3) := by decide +kernel
theorem d_Ref_isIn_20 : decode prog_8_method_26_code 20 = .ok (.iload_n 3, 1) := by decide +kernel
theorem d_Ref_isIn_21 : decode prog_8_method_26_code 21 = .ok (.iaload, 1) := by decide +kernel
theorem d_Ref_isIn_22 : decode prog_8_method_26_code 22 = .ok (.iload_n 1, 1) := by decide +kernel
theorem d_Ref_isIn_23 : decode prog_8_method_26_code 23 = .ok (.if_icmp .ne 7, 3) := by decide +kernel
theorem d_Ref_isIn_26 : decode prog_8_method_26_code 26 = .ok (.iconst 1, 1) := by decide +kernel
theorem d_Ref_isIn_27 : decode prog_8_method_26_code 27 = .ok (.goto 4, 3) := by decide +kernel
theorem d_Ref_isIn_30 : decode prog_8_method_26_code 30 = .ok (.iconst 0, 1) := by decide +kernel
theorem d_Ref_isIn_31 : decode prog_8_method_26_code 31 = .ok (.istore_n 2, 1) := by decide +kernel
theorem d_Ref_isIn_32 : decode prog_8_method_26_code 32 = .ok (.iinc 3 1, 3) := by decide +kernel
theorem d_Ref_isIn_35 : decode prog_8_method_26_code 35 = .ok (.goto (-31), 3) := by decide +kernel
theorem d_Ref_isIn_38 : decode prog_8_method_26_code 38 = .ok (.iload_n 2, 1) := by decide +kernel
theorem d_Ref_isIn_39 : decode prog_8_method_26_code 39 = .ok (.ireturn, 1) := by decide +kernel
theorem d_Ref_exporters_0 : decode prog_8_method_27_code 0 = .ok (.iconst 0, 1) := by decide +kernel
theorem d_Ref_exporters_1 : decode prog_8_method_27_code 1 = .ok (.istore_n 2, 1) := by decide +kernel
theorem d_Ref_exporters_2 : decode prog_8_method_27_code 2 = .ok (.iconst 0, 1) := by decide +kernel
theorem d_Ref_exporters_3 : decode prog_8_method_27_code 3 = .ok (.istore_n 3, 1) := by decide +kernel
theorem d_Ref_exporters_4 : decode prog_8_method_27_code 4 = .ok (.iload_n 3, 1) := by decide +kernel
theorem d_Ref_exporters_5 : decode prog_8_method_27_code 5 = .ok (.aload_n 0, 1) := by decide +kernel
theorem d_Ref_exporters_6 : decode prog_8_method_27_code 6 = .ok (.getfield 116, 3) := by decide +kernel
theorem d_Ref_exporters_9 : decode prog_8_method_27_code 9 = .ok (.if_icmp .ge 31, 3) := by decide +kernel
theorem d_Ref_exporters_12 : decode prog_8_method_27_code 12 = .ok (.aload_n 0, 1) := by decide +kernel
theorem d_Ref_exporters_13 : decode prog_8_method_27_code 13 = .ok (.aload_n 0, 1) := by decide +kernel
theorem d_Ref_exporters_14 : decode prog_8_method_27_code 14 = .ok (.getfield 39, 3) := by decide +kernel
theorem d_Ref_exporters_17 : decode prog_8_method_27_code 17 = .ok (.iload_n 3, 1) := by decide +kernel
theorem d_Ref_exporters_18 : decode prog_8_method_27_code 18 = .ok (.iaload, 1) := by decide +kernel
theorem d_Ref_exporters_19 : decode prog_8_method_27_code 19 = .ok (.iload_n 1, 1) := by decide +kernel
theorem d_Ref_exporters_20 : decode prog_8_method_27_code 20 = .ok (.invokevirtual 119, 3) := by decide +kernel
theorem d_Ref_exporters_23 : decode prog_8_method_27_code 23 = .ok (.ifCond .eq 9, 3) := by decide +kernel
theorem d_Ref_exporters_26 : decode prog_8_method_27_code 26 = .ok (.iload_n 2, 1) := by decide +kernel
theorem d_Ref_exporters_27 : decode prog_8_method_27_code 27 = .ok (.iconst 1, 1) := by decide +kernel
theorem d_Ref_exporters_28 : decode prog_8_method_27_code 28 = .ok (.iadd, 1) := by decide +kernel
theorem d_Ref_exporters_29 : decode prog_8_method_27_code 29 = .ok (.goto 4, 3) := by decide +kernel
theorem d_Ref_exporters_32 : decode prog_8_method_27_code 32 = .ok (.iload_n 2, 1) := by decide +kernel
theorem d_Ref_exporters_33 : decode prog_8_method_27_code 33 = .ok (.istore_n 2, 1) := by decide +kernel
theorem d_Ref_exporters_34 : decode prog_8_method_27_code 34 = .ok (.iinc 3 1, 3) := by decide +kernel
theorem d_Ref_exporters_37 : decode prog_8_method_27_code 37 = .ok (.goto (-33), 3) := by decide +kernel
theorem d_Ref_exporters_40 : decode prog_8_method_27_code 40 = .ok (.iload_n 2, 1) := by decide +kernel
theorem d_Ref_exporters_41 : decode prog_8_method_27_code 41 = .ok (.ireturn, 1) := by decide +kernel
theorem d_Ref_largest_0 : decode prog_8_method_28_code 0 = .ok (.iconst 0, 1) := by decide +kernel
theorem d_Ref_largest_1 : decode prog_8_method_28_code 1 = .ok (.istore_n 2, 1) := by decide +kernel
theorem d_Ref_largest_2 : decode prog_8_method_28_code 2 = .ok (.iconst 0, 1) := by decide +kernel
theorem d_Ref_largest_3 : decode prog_8_method_28_code 3 = .ok (.istore_n 3, 1) := by decide +kernel
theorem d_Ref_largest_4 : decode prog_8_method_28_code 4 = .ok (.iload_n 3, 1) := by decide +kernel
theorem d_Ref_largest_5 : decode prog_8_method_28_code 5 = .ok (.aload_n 0, 1) := by decide +kernel
theorem d_Ref_largest_6 : decode prog_8_method_28_code 6 = .ok (.getfield 116, 3) := by decide +kernel
theorem d_Ref_largest_9 : decode prog_8_method_28_code 9 = .ok (.if_icmp .ge 35, 3) := by decide +kernel
theorem d_Ref_largest_12 : decode prog_8_method_28_code 12 = .ok (.aload_n 0, 1) := by decide +kernel
theorem d_Ref_largest_13 : decode prog_8_method_28_code 13 = .ok (.aload_n 0, 1) := by decide +kernel
theorem d_Ref_largest_14 : decode prog_8_method_28_code 14 = .ok (.getfield 39, 3) := by decide +kernel
theorem d_Ref_largest_17 : decode prog_8_method_28_code 17 = .ok (.iload_n 3, 1) := by decide +kernel
theorem d_Ref_largest_18 : decode prog_8_method_28_code 18 = .ok (.iaload, 1) := by decide +kernel
theorem d_Ref_largest_19 : decode prog_8_method_28_code 19 = .ok (.iload_n 1, 1) := by decide +kernel
theorem d_Ref_largest_20 : decode prog_8_method_28_code 20 = .ok (.invokevirtual 73, 3) := by decide +kernel
theorem d_Ref_largest_23 : decode prog_8_method_28_code 23 = .ok (.istore 4, 2) := by decide +kernel
theorem d_Ref_largest_25 : decode prog_8_method_28_code 25 = .ok (.iload 4, 2) := by decide +kernel
theorem d_Ref_largest_27 : decode prog_8_method_28_code 27 = .ok (.iload_n 2, 1) := by decide +kernel
theorem d_Ref_largest_28 : decode prog_8_method_28_code 28 = .ok (.if_icmp .le 8, 3) := by decide +kernel
theorem d_Ref_largest_31 : decode prog_8_method_28_code 31 = .ok (.iload 4, 2) := by decide +kernel
theorem d_Ref_largest_33 : decode prog_8_method_28_code 33 = .ok (.goto 4, 3) := by decide +kernel
theorem d_Ref_largest_36 : decode prog_8_method_28_code 36 = .ok (.iload_n 2, 1) := by decide +kernel
theorem d_Ref_largest_37 : decode prog_8_method_28_code 37 = .ok (.istore_n 2, 1) := by decide +kernel
theorem d_Ref_largest_38 : decode prog_8_method_28_code 38 = .ok (.iinc 3 1, 3) := by decide +kernel
theorem d_Ref_largest_41 : decode prog_8_method_28_code 41 = .ok (.goto (-37), 3) := by decide +kernel
theorem d_Ref_largest_44 : decode prog_8_method_28_code 44 = .ok (.iload_n 2, 1) := by decide +kernel
theorem d_Ref_largest_45 : decode prog_8_method_28_code 45 = .ok (.ireturn, 1) := by decide +kernel
theorem d_Ref_wanted_0 : decode prog_8_method_29_code 0 = .ok (.aload_n 0, 1) := by decide +kernel
theorem d_Ref_wanted_1 : decode prog_8_method_29_code 1 = .ok (.getfield 35, 3) := by decide +kernel
theorem d_Ref_wanted_4 : decode prog_8_method_29_code 4 = .ok (.iload_n 1, 1) := by decide +kernel
theorem d_Ref_wanted_5 : decode prog_8_method_29_code 5 = .ok (.if_icmp .ne 7, 3) := by decide +kernel
theorem d_Ref_wanted_8 : decode prog_8_method_29_code 8 = .ok (.iconst 1, 1) := by decide +kernel
theorem d_Ref_wanted_9 : decode prog_8_method_29_code 9 = .ok (.goto 4, 3) := by decide +kernel
theorem d_Ref_wanted_12 : decode prog_8_method_29_code 12 = .ok (.iconst 0, 1) := by decide +kernel
theorem d_Ref_wanted_13 : decode prog_8_method_29_code 13 = .ok (.istore_n 2, 1) := by decide +kernel
theorem d_Ref_wanted_14 : decode prog_8_method_29_code 14 = .ok (.iconst 0, 1) := by decide +kernel
theorem d_Ref_wanted_15 : decode prog_8_method_29_code 15 = .ok (.istore_n 3, 1) := by decide +kernel
theorem d_Ref_wanted_16 : decode prog_8_method_29_code 16 = .ok (.iload_n 3, 1) := by decide +kernel
theorem d_Ref_wanted_17 : decode prog_8_method_29_code 17 = .ok (.aload_n 0, 1) := by decide +kernel
theorem d_Ref_wanted_18 : decode prog_8_method_29_code 18 = .ok (.getfield 116, 3) := by decide +kernel
theorem d_Ref_wanted_21 : decode prog_8_method_29_code 21 = .ok (.if_icmp .ge 33, 3) := by decide +kernel
theorem d_Ref_wanted_24 : decode prog_8_method_29_code 24 = .ok (.iload_n 2, 1) := by decide +kernel
theorem d_Ref_wanted_25 : decode prog_8_method_29_code 25 = .ok (.ifCond .ne 17, 3) := by decide +kernel
theorem d_Ref_wanted_28 : decode prog_8_method_29_code 28 = .ok (.aload_n 0, 1) := by decide +kernel
theorem d_Ref_wanted_29 : decode prog_8_method_29_code 29 = .ok (.aload_n 0, 1) := by decide +kernel
theorem d_Ref_wanted_30 : decode prog_8_method_29_code 30 = .ok (.getfield 39, 3) := by decide +kernel
theorem d_Ref_wanted_33 : decode prog_8_method_29_code 33 = .ok (.iload_n 3, 1) := by decide +kernel
theorem d_Ref_wanted_34 : decode prog_8_method_29_code 34 = .ok (.iaload, 1) := by decide +kernel
theorem d_Ref_wanted_35 : decode prog_8_method_29_code 35 = .ok (.iload_n 1, 1) := by decide +kernel
theorem d_Ref_wanted_36 : decode prog_8_method_29_code 36 = .ok (.invokevirtual 122, 3) := by decide +kernel
theorem d_Ref_wanted_39 : decode prog_8_method_29_code 39 = .ok (.ifCond .eq 7, 3) := by decide +kernel
theorem d_Ref_wanted_42 : decode prog_8_method_29_code 42 = .ok (.iconst 1, 1) := by decide +kernel
theorem d_Ref_wanted_43 : decode prog_8_method_29_code 43 = .ok (.goto 4, 3) := by decide +kernel
theorem d_Ref_wanted_46 : decode prog_8_method_29_code 46 = .ok (.iconst 0, 1) := by decide +kernel
theorem d_Ref_wanted_47 : decode prog_8_method_29_code 47 = .ok (.istore_n 2, 1) := by decide +kernel
theorem d_Ref_wanted_48 : decode prog_8_method_29_code 48 = .ok (.iinc 3 1, 3) := by decide +kernel
theorem d_Ref_wanted_51 : decode prog_8_method_29_code 51 = .ok (.goto (-35), 3) := by decide +kernel
theorem d_Ref_wanted_54 : decode prog_8_method_29_code 54 = .ok (.iload_n 2, 1) := by decide +kernel
theorem d_Ref_wanted_55 : decode prog_8_method_29_code 55 = .ok (.ifCond .eq 23, 3) := by decide +kernel
theorem d_Ref_wanted_58 : decode prog_8_method_29_code 58 = .ok (.aload_n 0, 1) := by decide +kernel
theorem d_Ref_wanted_59 : decode prog_8_method_29_code 59 = .ok (.iload_n 1, 1) := by decide +kernel
theorem d_Ref_wanted_60 : decode prog_8_method_29_code 60 = .ok (.invokevirtual 125, 3) := by decide +kernel
theorem d_Ref_wanted_63 : decode prog_8_method_29_code 63 = .ok (.ifCond .ne 15, 3) := by decide +kernel
theorem d_Ref_wanted_66 : decode prog_8_method_29_code 66 = .ok (.aload_n 0, 1) := by decide +kernel
theorem d_Ref_wanted_67 : decode prog_8_method_29_code 67 = .ok (.iload_n 1, 1) := by decide +kernel
theorem d_Ref_wanted_68 : decode prog_8_method_29_code 68 = .ok (.invokevirtual 128, 3) := by decide +kernel
theorem d_Ref_wanted_71 : decode prog_8_method_29_code 71 = .ok (.ifCond .ne 7, 3) := by decide +kernel
theorem d_Ref_wanted_74 : decode prog_8_method_29_code 74 = .ok (.iconst 1, 1) := by decide +kernel
theorem d_Ref_wanted_75 : decode prog_8_method_29_code 75 = .ok (.goto 4, 3) := by decide +kernel
theorem d_Ref_wanted_78 : decode prog_8_method_29_code 78 = .ok (.iconst 0, 1) := by decide +kernel
theorem d_Ref_wanted_79 : decode prog_8_method_29_code 79 = .ok (.ireturn, 1) := by decide +kernel
theorem d_Ref_include_0 : decode prog_8_method_30_code 0 = .ok (.aload_n 0, 1) := by decide +kernel
theorem d_Ref_include_1 : decode prog_8_method_30_code 1 = .ok (.getfield 39, 3) := by decide +kernel
theorem d_Ref_include_4 : decode prog_8_method_30_code 4 = .ok (.aload_n 0, 1) := by decide +kernel
theorem d_Ref_include_5 : decode prog_8_method_30_code 5 = .ok (.getfield 116, 3) := by decide +kernel
theorem d_Ref_include_8 : decode prog_8_method_30_code 8 = .ok (.iload_n 1, 1) := by decide +kernel
theorem d_Ref_include_9 : decode prog_8_method_30_code 9 = .ok (.iastore, 1) := by decide +kernel
theorem d_Ref_include_10 : decode prog_8_method_30_code 10 = .ok (.aload_n 0, 1) := by decide +kernel
theorem d_Ref_include_11 : decode prog_8_method_30_code 11 = .ok (.dup, 1) := by decide +kernel
theorem d_Ref_include_12 : decode prog_8_method_30_code 12 = .ok (.getfield 116, 3) := by decide +kernel
theorem d_Ref_include_15 : decode prog_8_method_30_code 15 = .ok (.iconst 1, 1) := by decide +kernel
theorem d_Ref_include_16 : decode prog_8_method_30_code 16 = .ok (.iadd, 1) := by decide +kernel
theorem d_Ref_include_17 : decode prog_8_method_30_code 17 = .ok (.putfield 116, 3) := by decide +kernel
theorem d_Ref_include_20 : decode prog_8_method_30_code 20 = .ok (.return_, 1) := by decide +kernel
theorem d_Ref_helps_0 : decode prog_8_method_31_code 0 = .ok (.iconst 0, 1) := by decide +kernel
theorem d_Ref_helps_1 : decode prog_8_method_31_code 1 = .ok (.istore_n 2, 1) := by decide +kernel
theorem d_Ref_helps_2 : decode prog_8_method_31_code 2 = .ok (.iconst 0, 1) := by decide +kernel
theorem d_Ref_helps_3 : decode prog_8_method_31_code 3 = .ok (.istore_n 3, 1) := by decide +kernel
theorem d_Ref_helps_4 : decode prog_8_method_31_code 4 = .ok (.iload_n 3, 1) := by decide +kernel
theorem d_Ref_helps_5 : decode prog_8_method_31_code 5 = .ok (.bipush 16, 2) := by decide +kernel
theorem d_Ref_helps_7 : decode prog_8_method_31_code 7 = .ok (.if_icmp .ge 36, 3) := by decide +kernel
theorem d_Ref_helps_10 : decode prog_8_method_31_code 10 = .ok (.iload_n 2, 1) := by decide +kernel
theorem d_Ref_helps_11 : decode prog_8_method_31_code 11 = .ok (.ifCond .ne 20, 3) := by decide +kernel
theorem d_Ref_helps_14 : decode prog_8_method_31_code 14 = .ok (.aload_n 0, 1) := by decide +kernel
theorem d_Ref_helps_15 : decode prog_8_method_31_code 15 = .ok (.iload_n 1, 1) := by decide +kernel
theorem d_Ref_helps_16 : decode prog_8_method_31_code 16 = .ok (.iload_n 3, 1) := by decide +kernel
theorem d_Ref_helps_17 : decode prog_8_method_31_code 17 = .ok (.invokevirtual 119, 3) := by decide +kernel
theorem d_Ref_helps_20 : decode prog_8_method_31_code 20 = .ok (.ifCond .eq 15, 3) := by decide +kernel
theorem d_Ref_helps_23 : decode prog_8_method_31_code 23 = .ok (.aload_n 0, 1) := by decide +kernel
theorem d_Ref_helps_24 : decode prog_8_method_31_code 24 = .ok (.iload_n 3, 1) := by decide +kernel
theorem d_Ref_helps_25 : decode prog_8_method_31_code 25 = .ok (.invokevirtual 131, 3) := by decide +kernel
theorem d_Ref_helps_28 : decode prog_8_method_31_code 28 = .ok (.ifCond .eq 7, 3) := by decide +kernel
theorem d_Ref_helps_31 : decode prog_8_method_31_code 31 = .ok (.iconst 1, 1) := by decide +kernel
theorem d_Ref_helps_32 : decode prog_8_method_31_code 32 = .ok (.goto 4, 3) := by decide +kernel
theorem d_Ref_helps_35 : decode prog_8_method_31_code 35 = .ok (.iconst 0, 1) := by decide +kernel
theorem d_Ref_helps_36 : decode prog_8_method_31_code 36 = .ok (.istore_n 2, 1) := by decide +kernel
theorem d_Ref_helps_37 : decode prog_8_method_31_code 37 = .ok (.iinc 3 1, 3) := by decide +kernel
theorem d_Ref_helps_40 : decode prog_8_method_31_code 40 = .ok (.goto (-36), 3) := by decide +kernel
theorem d_Ref_helps_43 : decode prog_8_method_31_code 43 = .ok (.iload_n 2, 1) := by decide +kernel
theorem d_Ref_helps_44 : decode prog_8_method_31_code 44 = .ok (.ireturn, 1) := by decide +kernel
theorem d_Ref_goOver_0 : decode prog_8_method_32_code 0 = .ok (.iconst 1, 1) := by decide +kernel
theorem d_Ref_goOver_1 : decode prog_8_method_32_code 1 = .ok (.istore_n 1, 1) := by decide +kernel
theorem d_Ref_goOver_2 : decode prog_8_method_32_code 2 = .ok (.iconst 0, 1) := by decide +kernel
theorem d_Ref_goOver_3 : decode prog_8_method_32_code 3 = .ok (.istore_n 2, 1) := by decide +kernel
theorem d_Ref_goOver_4 : decode prog_8_method_32_code 4 = .ok (.iload_n 2, 1) := by decide +kernel
theorem d_Ref_goOver_5 : decode prog_8_method_32_code 5 = .ok (.bipush 8, 2) := by decide +kernel
theorem d_Ref_goOver_7 : decode prog_8_method_32_code 7 = .ok (.if_icmp .ge 69, 3) := by decide +kernel
theorem d_Ref_goOver_10 : decode prog_8_method_32_code 10 = .ok (.iload_n 1, 1) := by decide +kernel
theorem d_Ref_goOver_11 : decode prog_8_method_32_code 11 = .ok (.ifCond .eq 65, 3) := by decide +kernel
theorem d_Ref_goOver_14 : decode prog_8_method_32_code 14 = .ok (.iconst 0, 1) := by decide +kernel
theorem d_Ref_goOver_15 : decode prog_8_method_32_code 15 = .ok (.istore_n 1, 1) := by decide +kernel
theorem d_Ref_goOver_16 : decode prog_8_method_32_code 16 = .ok (.iconst 0, 1) := by decide +kernel
theorem d_Ref_goOver_17 : decode prog_8_method_32_code 17 = .ok (.istore_n 3, 1) := by decide +kernel
theorem d_Ref_goOver_18 : decode prog_8_method_32_code 18 = .ok (.iload_n 3, 1) := by decide +kernel
theorem d_Ref_goOver_19 : decode prog_8_method_32_code 19 = .ok (.aload_n 0, 1) := by decide +kernel
theorem d_Ref_goOver_20 : decode prog_8_method_32_code 20 = .ok (.getfield 101, 3) := by decide +kernel
theorem d_Ref_goOver_23 : decode prog_8_method_32_code 23 = .ok (.if_icmp .ge 47, 3) := by decide +kernel
theorem d_Ref_goOver_26 : decode prog_8_method_32_code 26 = .ok (.aload_n 0, 1) := by decide +kernel
theorem d_Ref_goOver_27 : decode prog_8_method_32_code 27 = .ok (.aload_n 0, 1) := by decide +kernel
theorem d_Ref_goOver_28 : decode prog_8_method_32_code 28 = .ok (.getfield 29, 3) := by decide +kernel
theorem d_Ref_goOver_31 : decode prog_8_method_32_code 31 = .ok (.iload_n 3, 1) := by decide +kernel
theorem d_Ref_goOver_32 : decode prog_8_method_32_code 32 = .ok (.iaload, 1) := by decide +kernel
theorem d_Ref_goOver_33 : decode prog_8_method_32_code 33 = .ok (.invokevirtual 134, 3) := by decide +kernel
theorem d_Ref_goOver_36 : decode prog_8_method_32_code 36 = .ok (.ifCond .ne 28, 3) := by decide +kernel
theorem d_Ref_goOver_39 : decode prog_8_method_32_code 39 = .ok (.aload_n 0, 1) := by decide +kernel
theorem d_Ref_goOver_40 : decode prog_8_method_32_code 40 = .ok (.aload_n 0, 1) := by decide +kernel
theorem d_Ref_goOver_41 : decode prog_8_method_32_code 41 = .ok (.getfield 29, 3) := by decide +kernel
theorem d_Ref_goOver_44 : decode prog_8_method_32_code 44 = .ok (.iload_n 3, 1) := by decide +kernel
theorem d_Ref_goOver_45 : decode prog_8_method_32_code 45 = .ok (.iaload, 1) := by decide +kernel
theorem d_Ref_goOver_46 : decode prog_8_method_32_code 46 = .ok (.invokevirtual 137, 3) := by decide +kernel
theorem d_Ref_goOver_49 : decode prog_8_method_32_code 49 = .ok (.ifCond .eq 15, 3) := by decide +kernel
theorem d_Ref_goOver_52 : decode prog_8_method_32_code 52 = .ok (.aload_n 0, 1) := by decide +kernel
theorem d_Ref_goOver_53 : decode prog_8_method_32_code 53 = .ok (.aload_n 0, 1) := by decide +kernel
theorem d_Ref_goOver_54 : decode prog_8_method_32_code 54 = .ok (.getfield 29, 3) := by decide +kernel
theorem d_Ref_goOver_57 : decode prog_8_method_32_code 57 = .ok (.iload_n 3, 1) := by decide +kernel
theorem d_Ref_goOver_58 : decode prog_8_method_32_code 58 = .ok (.iaload, 1) := by decide +kernel
theorem d_Ref_goOver_59 : decode prog_8_method_32_code 59 = .ok (.invokevirtual 140, 3) := by decide +kernel
theorem d_Ref_goOver_62 : decode prog_8_method_32_code 62 = .ok (.iconst 1, 1) := by decide +kernel
theorem d_Ref_goOver_63 : decode prog_8_method_32_code 63 = .ok (.istore_n 1, 1) := by decide +kernel
theorem d_Ref_goOver_64 : decode prog_8_method_32_code 64 = .ok (.iinc 3 1, 3) := by decide +kernel
theorem d_Ref_goOver_67 : decode prog_8_method_32_code 67 = .ok (.goto (-49), 3) := by decide +kernel
theorem d_Ref_goOver_70 : decode prog_8_method_32_code 70 = .ok (.iinc 2 1, 3) := by decide +kernel
theorem d_Ref_goOver_73 : decode prog_8_method_32_code 73 = .ok (.goto (-69), 3) := by decide +kernel
theorem d_Ref_goOver_76 : decode prog_8_method_32_code 76 = .ok (.return_, 1) := by decide +kernel
theorem d_Ref_base_0 : decode prog_8_method_33_code 0 = .ok (.iconst 0, 1) := by decide +kernel
theorem d_Ref_base_1 : decode prog_8_method_33_code 1 = .ok (.istore_n 3, 1) := by decide +kernel
theorem d_Ref_base_2 : decode prog_8_method_33_code 2 = .ok (.iconst 0, 1) := by decide +kernel
theorem d_Ref_base_3 : decode prog_8_method_33_code 3 = .ok (.istore 4, 2) := by decide +kernel
theorem d_Ref_base_5 : decode prog_8_method_33_code 5 = .ok (.iload 4, 2) := by decide +kernel
theorem d_Ref_base_7 : decode prog_8_method_33_code 7 = .ok (.iload_n 2, 1) := by decide +kernel
theorem d_Ref_base_8 : decode prog_8_method_33_code 8 = .ok (.if_icmp .gt 62, 3) := by decide +kernel
theorem d_Ref_base_11 : decode prog_8_method_33_code 11 = .ok (.iconst 0, 1) := by decide +kernel
theorem d_Ref_base_12 : decode prog_8_method_33_code 12 = .ok (.istore 5, 2) := by decide +kernel
theorem d_Ref_base_14 : decode prog_8_method_33_code 14 = .ok (.iload 5, 2) := by decide +kernel
theorem d_Ref_base_16 : decode prog_8_method_33_code 16 = .ok (.aload_n 0, 1) := by decide +kernel
theorem d_Ref_base_17 : decode prog_8_method_33_code 17 = .ok (.getfield 116, 3) := by decide +kernel
theorem d_Ref_base_20 : decode prog_8_method_33_code 20 = .ok (.if_icmp .ge 44, 3) := by decide +kernel
theorem d_Ref_base_23 : decode prog_8_method_33_code 23 = .ok (.iload 4, 2) := by decide +kernel
theorem d_Ref_base_25 : decode prog_8_method_33_code 25 = .ok (.iload_n 2, 1) := by decide +kernel
theorem d_Ref_base_26 : decode prog_8_method_33_code 26 = .ok (.if_icmp .ne 16, 3) := by decide +kernel
theorem d_Ref_base_29 : decode prog_8_method_33_code 29 = .ok (.aload_n 0, 1) := by decide +kernel
theorem d_Ref_base_30 : decode prog_8_method_33_code 30 = .ok (.getfield 39, 3) := by decide +kernel
theorem d_Ref_base_33 : decode prog_8_method_33_code 33 = .ok (.iload 5, 2) := by decide +kernel
theorem d_Ref_base_35 : decode prog_8_method_33_code 35 = .ok (.iaload, 1) := by decide +kernel
theorem d_Ref_base_36 : decode prog_8_method_33_code 36 = .ok (.iload_n 1, 1) := by decide +kernel
theorem d_Ref_base_37 : decode prog_8_method_33_code 37 = .ok (.if_icmp .ne 5, 3) := by decide +kernel
theorem d_Ref_base_40 : decode prog_8_method_33_code 40 = .ok (.iload_n 3, 1) := by decide +kernel
theorem d_Ref_base_41 : decode prog_8_method_33_code 41 = .ok (.ireturn, 1) := by decide +kernel
theorem d_Ref_base_42 : decode prog_8_method_33_code 42 = .ok (.iload_n 3, 1) := by decide +kernel
theorem d_Ref_base_43 : decode prog_8_method_33_code 43 = .ok (.aload_n 0, 1) := by decide +kernel
theorem d_Ref_base_44 : decode prog_8_method_33_code 44 = .ok (.aload_n 0, 1) := by decide +kernel
theorem d_Ref_base_45 : decode prog_8_method_33_code 45 = .ok (.getfield 39, 3) := by decide +kernel
theorem d_Ref_base_48 : decode prog_8_method_33_code 48 = .ok (.iload 5, 2) := by decide +kernel
theorem d_Ref_base_50 : decode prog_8_method_33_code 50 = .ok (.iaload, 1) := by decide +kernel
theorem d_Ref_base_51 : decode prog_8_method_33_code 51 = .ok (.iload 4, 2) := by decide +kernel
theorem d_Ref_base_53 : decode prog_8_method_33_code 53 = .ok (.invokevirtual 143, 3) := by decide +kernel
theorem d_Ref_base_56 : decode prog_8_method_33_code 56 = .ok (.iadd, 1) := by decide +kernel
theorem d_Ref_base_57 : decode prog_8_method_33_code 57 = .ok (.istore_n 3, 1) := by decide +kernel
theorem d_Ref_base_58 : decode prog_8_method_33_code 58 = .ok (.iinc 5 1, 3) := by decide +kernel
theorem d_Ref_base_61 : decode prog_8_method_33_code 61 = .ok (.goto (-47), 3) := by decide +kernel
theorem d_Ref_base_64 : decode prog_8_method_33_code 64 = .ok (.iinc 4 1, 3) := by decide +kernel
theorem d_Ref_base_67 : decode prog_8_method_33_code 67 = .ok (.goto (-62), 3) := by decide +kernel
theorem d_Ref_base_70 : decode prog_8_method_33_code 70 = .ok (.iload_n 3, 1) := by decide +kernel
theorem d_Ref_base_71 : decode prog_8_method_33_code 71 = .ok (.ireturn, 1) := by decide +kernel
theorem d_Ref_sum_0 : decode prog_8_method_34_code 0 = .ok (.iconst 0, 1) := by decide +kernel
theorem d_Ref_sum_1 : decode prog_8_method_34_code 1 = .ok (.istore_n 2, 1) := by decide +kernel
theorem d_Ref_sum_2 : decode prog_8_method_34_code 2 = .ok (.iconst 0, 1) := by decide +kernel
theorem d_Ref_sum_3 : decode prog_8_method_34_code 3 = .ok (.istore_n 3, 1) := by decide +kernel
theorem d_Ref_sum_4 : decode prog_8_method_34_code 4 = .ok (.iload_n 3, 1) := by decide +kernel
theorem d_Ref_sum_5 : decode prog_8_method_34_code 5 = .ok (.aload_n 0, 1) := by decide +kernel
theorem d_Ref_sum_6 : decode prog_8_method_34_code 6 = .ok (.getfield 116, 3) := by decide +kernel
theorem d_Ref_sum_9 : decode prog_8_method_34_code 9 = .ok (.if_icmp .ge 23, 3) := by decide +kernel
theorem d_Ref_sum_12 : decode prog_8_method_34_code 12 = .ok (.iload_n 2, 1) := by decide +kernel
theorem d_Ref_sum_13 : decode prog_8_method_34_code 13 = .ok (.aload_n 0, 1) := by decide +kernel
theorem d_Ref_sum_14 : decode prog_8_method_34_code 14 = .ok (.aload_n 0, 1) := by decide +kernel
theorem d_Ref_sum_15 : decode prog_8_method_34_code 15 = .ok (.getfield 39, 3) := by decide +kernel
theorem d_Ref_sum_18 : decode prog_8_method_34_code 18 = .ok (.iload_n 3, 1) := by decide +kernel
theorem d_Ref_sum_19 : decode prog_8_method_34_code 19 = .ok (.iaload, 1) := by decide +kernel
theorem d_Ref_sum_20 : decode prog_8_method_34_code 20 = .ok (.iload_n 1, 1) := by decide +kernel
theorem d_Ref_sum_21 : decode prog_8_method_34_code 21 = .ok (.invokevirtual 143, 3) := by decide +kernel
theorem d_Ref_sum_24 : decode prog_8_method_34_code 24 = .ok (.iadd, 1) := by decide +kernel
theorem d_Ref_sum_25 : decode prog_8_method_34_code 25 = .ok (.istore_n 2, 1) := by decide +kernel
theorem d_Ref_sum_26 : decode prog_8_method_34_code 26 = .ok (.iinc 3 1, 3) := by decide +kernel
theorem d_Ref_sum_29 : decode prog_8_method_34_code 29 = .ok (.goto (-25), 3) := by decide +kernel
theorem d_Ref_sum_32 : decode prog_8_method_34_code 32 = .ok (.iload_n 2, 1) := by decide +kernel
theorem d_Ref_sum_33 : decode prog_8_method_34_code 33 = .ok (.ireturn, 1) := by decide +kernel
theorem d_Ref_commonsBelow_0 : decode prog_8_method_35_code 0 = .ok (.iconst 0, 1) := by decide +kernel
theorem d_Ref_commonsBelow_1 : decode prog_8_method_35_code 1 = .ok (.istore_n 2, 1) := by decide +kernel
theorem d_Ref_commonsBelow_2 : decode prog_8_method_35_code 2 = .ok (.iconst 0, 1) := by decide +kernel
theorem d_Ref_commonsBelow_3 : decode prog_8_method_35_code 3 = .ok (.istore_n 3, 1) := by decide +kernel
theorem d_Ref_commonsBelow_4 : decode prog_8_method_35_code 4 = .ok (.iload_n 3, 1) := by decide +kernel
theorem d_Ref_commonsBelow_5 : decode prog_8_method_35_code 5 = .ok (.iload_n 1, 1) := by decide +kernel
theorem d_Ref_commonsBelow_6 : decode prog_8_method_35_code 6 = .ok (.if_icmp .ge 29, 3) := by decide +kernel
theorem d_Ref_commonsBelow_9 : decode prog_8_method_35_code 9 = .ok (.aload_n 0, 1) := by decide +kernel
theorem d_Ref_commonsBelow_10 : decode prog_8_method_35_code 10 = .ok (.iload_n 3, 1) := by decide +kernel
theorem d_Ref_commonsBelow_11 : decode prog_8_method_35_code 11 = .ok (.invokevirtual 125, 3) := by decide +kernel
theorem d_Ref_commonsBelow_14 : decode prog_8_method_35_code 14 = .ok (.ifCond .ne 13, 3) := by decide +kernel
theorem d_Ref_commonsBelow_17 : decode prog_8_method_35_code 17 = .ok (.iload_n 2, 1) := by decide +kernel
theorem d_Ref_commonsBelow_18 : decode prog_8_method_35_code 18 = .ok (.aload_n 0, 1) := by decide +kernel
theorem d_Ref_commonsBelow_19 : decode prog_8_method_35_code 19 = .ok (.iload_n 3, 1) := by decide +kernel
theorem d_Ref_commonsBelow_20 : decode prog_8_method_35_code 20 = .ok (.invokevirtual 128, 3) := by decide +kernel
theorem d_Ref_commonsBelow_23 : decode prog_8_method_35_code 23 = .ok (.iadd, 1) := by decide +kernel
theorem d_Ref_commonsBelow_24 : decode prog_8_method_35_code 24 = .ok (.goto 4, 3) := by decide +kernel
theorem d_Ref_commonsBelow_27 : decode prog_8_method_35_code 27 = .ok (.iload_n 2, 1) := by decide +kernel
theorem d_Ref_commonsBelow_28 : decode prog_8_method_35_code 28 = .ok (.istore_n 2, 1) := by decide +kernel
theorem d_Ref_commonsBelow_29 : decode prog_8_method_35_code 29 = .ok (.iinc 3 1, 3) := by decide +kernel
theorem d_Ref_commonsBelow_32 : decode prog_8_method_35_code 32 = .ok (.goto (-28), 3) := by decide +kernel
theorem d_Ref_commonsBelow_35 : decode prog_8_method_35_code 35 = .ok (.iload_n 2, 1) := by decide +kernel
theorem d_Ref_commonsBelow_36 : decode prog_8_method_35_code 36 = .ok (.ireturn, 1) := by decide +kernel
theorem d_Ref_valueOf_0 : decode prog_8_method_36_code 0 = .ok (.aload_n 0, 1) := by decide +kernel
theorem d_Ref_valueOf_1 : decode prog_8_method_36_code 1 = .ok (.getfield 13, 3) := by decide +kernel
theorem d_Ref_valueOf_4 : decode prog_8_method_36_code 4 = .ok (.iload_n 2, 1) := by decide +kernel
theorem d_Ref_valueOf_5 : decode prog_8_method_36_code 5 = .ok (.iaload, 1) := by decide +kernel
theorem d_Ref_valueOf_6 : decode prog_8_method_36_code 6 = .ok (.bipush 8, 2) := by decide +kernel
theorem d_Ref_valueOf_8 : decode prog_8_method_36_code 8 = .ok (.if_icmp .ne 10, 3) := by decide +kernel
theorem d_Ref_valueOf_11 : decode prog_8_method_36_code 11 = .ok (.aload_n 0, 1) := by decide +kernel
theorem d_Ref_valueOf_12 : decode prog_8_method_36_code 12 = .ok (.getfield 19, 3) := by decide +kernel
theorem d_Ref_valueOf_15 : decode prog_8_method_36_code 15 = .ok (.iload_n 2, 1) := by decide +kernel
theorem d_Ref_valueOf_16 : decode prog_8_method_36_code 16 = .ok (.iaload, 1) := by decide +kernel
theorem d_Ref_valueOf_17 : decode prog_8_method_36_code 17 = .ok (.ireturn, 1) := by decide +kernel
theorem d_Ref_valueOf_18 : decode prog_8_method_36_code 18 = .ok (.aload_n 0, 1) := by decide +kernel
theorem d_Ref_valueOf_19 : decode prog_8_method_36_code 19 = .ok (.iload_n 1, 1) := by decide +kernel
theorem d_Ref_valueOf_20 : decode prog_8_method_36_code 20 = .ok (.aload_n 0, 1) := by decide +kernel
theorem d_Ref_valueOf_21 : decode prog_8_method_36_code 21 = .ok (.getfield 22, 3) := by decide +kernel
theorem d_Ref_valueOf_24 : decode prog_8_method_36_code 24 = .ok (.iload_n 2, 1) := by decide +kernel
theorem d_Ref_valueOf_25 : decode prog_8_method_36_code 25 = .ok (.iaload, 1) := by decide +kernel
theorem d_Ref_valueOf_26 : decode prog_8_method_36_code 26 = .ok (.invokevirtual 146, 3) := by decide +kernel
theorem d_Ref_valueOf_29 : decode prog_8_method_36_code 29 = .ok (.istore_n 3, 1) := by decide +kernel
theorem d_Ref_valueOf_30 : decode prog_8_method_36_code 30 = .ok (.iload_n 3, 1) := by decide +kernel
theorem d_Ref_valueOf_31 : decode prog_8_method_36_code 31 = .ok (.aload_n 0, 1) := by decide +kernel
theorem d_Ref_valueOf_32 : decode prog_8_method_36_code 32 = .ok (.iload_n 1, 1) := by decide +kernel
theorem d_Ref_valueOf_33 : decode prog_8_method_36_code 33 = .ok (.iload_n 2, 1) := by decide +kernel
theorem d_Ref_valueOf_34 : decode prog_8_method_36_code 34 = .ok (.aload_n 0, 1) := by decide +kernel
theorem d_Ref_valueOf_35 : decode prog_8_method_36_code 35 = .ok (.getfield 22, 3) := by decide +kernel
theorem d_Ref_valueOf_38 : decode prog_8_method_36_code 38 = .ok (.iload_n 2, 1) := by decide +kernel
theorem d_Ref_valueOf_39 : decode prog_8_method_36_code 39 = .ok (.iaload, 1) := by decide +kernel
theorem d_Ref_valueOf_40 : decode prog_8_method_36_code 40 = .ok (.invokevirtual 76, 3) := by decide +kernel
theorem d_Ref_valueOf_43 : decode prog_8_method_36_code 43 = .ok (.iadd, 1) := by decide +kernel
theorem d_Ref_valueOf_44 : decode prog_8_method_36_code 44 = .ok (.ireturn, 1) := by decide +kernel
theorem d_Ref_outside_0 : decode prog_8_method_37_code 0 = .ok (.iconst 0, 1) := by decide +kernel
theorem d_Ref_outside_1 : decode prog_8_method_37_code 1 = .ok (.istore_n 2, 1) := by decide +kernel
theorem d_Ref_outside_2 : decode prog_8_method_37_code 2 = .ok (.iload_n 2, 1) := by decide +kernel
theorem d_Ref_outside_3 : decode prog_8_method_37_code 3 = .ok (.aload_n 0, 1) := by decide +kernel
theorem d_Ref_outside_4 : decode prog_8_method_37_code 4 = .ok (.getfield 116, 3) := by decide +kernel
theorem d_Ref_outside_7 : decode prog_8_method_37_code 7 = .ok (.if_icmp .ge 47, 3) := by decide +kernel
theorem d_Ref_outside_10 : decode prog_8_method_37_code 10 = .ok (.aload_n 0, 1) := by decide +kernel
theorem d_Ref_outside_11 : decode prog_8_method_37_code 11 = .ok (.aload_n 0, 1) := by decide +kernel
theorem d_Ref_outside_12 : decode prog_8_method_37_code 12 = .ok (.getfield 39, 3) := by decide +kernel
theorem d_Ref_outside_15 : decode prog_8_method_37_code 15 = .ok (.iload_n 2, 1) := by decide +kernel
theorem d_Ref_outside_16 : decode prog_8_method_37_code 16 = .ok (.iaload, 1) := by decide +kernel
theorem d_Ref_outside_17 : decode prog_8_method_37_code 17 = .ok (.iload_n 1, 1) := by decide +kernel
theorem d_Ref_outside_18 : decode prog_8_method_37_code 18 = .ok (.invokevirtual 119, 3) := by decide +kernel
theorem d_Ref_outside_21 : decode prog_8_method_37_code 21 = .ok (.ifCond .eq 27, 3) := by decide +kernel
theorem d_Ref_outside_24 : decode prog_8_method_37_code 24 = .ok (.aload_n 0, 1) := by decide +kernel
theorem d_Ref_outside_25 : decode prog_8_method_37_code 25 = .ok (.aload_n 0, 1) := by decide +kernel
theorem d_Ref_outside_26 : decode prog_8_method_37_code 26 = .ok (.getfield 39, 3) := by decide +kernel
theorem d_Ref_outside_29 : decode prog_8_method_37_code 29 = .ok (.iload_n 2, 1) := by decide +kernel
theorem d_Ref_outside_30 : decode prog_8_method_37_code 30 = .ok (.iaload, 1) := by decide +kernel
theorem d_Ref_outside_31 : decode prog_8_method_37_code 31 = .ok (.iload_n 1, 1) := by decide +kernel
theorem d_Ref_outside_32 : decode prog_8_method_37_code 32 = .ok (.invokevirtual 69, 3) := by decide +kernel
theorem d_Ref_outside_35 : decode prog_8_method_37_code 35 = .ok (.istore_n 3, 1) := by decide +kernel
theorem d_Ref_outside_36 : decode prog_8_method_37_code 36 = .ok (.aload_n 0, 1) := by decide +kernel
theorem d_Ref_outside_37 : decode prog_8_method_37_code 37 = .ok (.aload_n 0, 1) := by decide +kernel
theorem d_Ref_outside_38 : decode prog_8_method_37_code 38 = .ok (.getfield 39, 3) := by decide +kernel
theorem d_Ref_outside_41 : decode prog_8_method_37_code 41 = .ok (.iload_n 2, 1) := by decide +kernel
theorem d_Ref_outside_42 : decode prog_8_method_37_code 42 = .ok (.iaload, 1) := by decide +kernel
theorem d_Ref_outside_43 : decode prog_8_method_37_code 43 = .ok (.iload_n 3, 1) := by decide +kernel
theorem d_Ref_outside_44 : decode prog_8_method_37_code 44 = .ok (.invokevirtual 149, 3) := by decide +kernel
theorem d_Ref_outside_47 : decode prog_8_method_37_code 47 = .ok (.ireturn, 1) := by decide +kernel
theorem d_Ref_outside_48 : decode prog_8_method_37_code 48 = .ok (.iinc 2 1, 3) := by decide +kernel
theorem d_Ref_outside_51 : decode prog_8_method_37_code 51 = .ok (.goto (-49), 3) := by decide +kernel
theorem d_Ref_outside_54 : decode prog_8_method_37_code 54 = .ok (.aload_n 0, 1) := by decide +kernel
theorem d_Ref_outside_55 : decode prog_8_method_37_code 55 = .ok (.iload_n 1, 1) := by decide +kernel
theorem d_Ref_outside_56 : decode prog_8_method_37_code 56 = .ok (.invokevirtual 128, 3) := by decide +kernel
theorem d_Ref_outside_59 : decode prog_8_method_37_code 59 = .ok (.ifCond .ne 7, 3) := by decide +kernel
theorem d_Ref_outside_62 : decode prog_8_method_37_code 62 = .ok (.iconst (-1), 1) := by decide +kernel
theorem d_Ref_outside_63 : decode prog_8_method_37_code 63 = .ok (.goto 26, 3) := by decide +kernel
theorem d_Ref_outside_66 : decode prog_8_method_37_code 66 = .ok (.aload_n 0, 1) := by decide +kernel
theorem d_Ref_outside_67 : decode prog_8_method_37_code 67 = .ok (.iconst 0, 1) := by decide +kernel
theorem d_Ref_outside_68 : decode prog_8_method_37_code 68 = .ok (.invokevirtual 152, 3) := by decide +kernel
theorem d_Ref_outside_71 : decode prog_8_method_37_code 71 = .ok (.aload_n 0, 1) := by decide +kernel
theorem d_Ref_outside_72 : decode prog_8_method_37_code 72 = .ok (.iconst 1, 1) := by decide +kernel
theorem d_Ref_outside_73 : decode prog_8_method_37_code 73 = .ok (.invokevirtual 152, 3) := by decide +kernel
theorem d_Ref_outside_76 : decode prog_8_method_37_code 76 = .ok (.iadd, 1) := by decide +kernel
theorem d_Ref_outside_77 : decode prog_8_method_37_code 77 = .ok (.aload_n 0, 1) := by decide +kernel
theorem d_Ref_outside_78 : decode prog_8_method_37_code 78 = .ok (.iconst 2, 1) := by decide +kernel
theorem d_Ref_outside_79 : decode prog_8_method_37_code 79 = .ok (.invokevirtual 152, 3) := by decide +kernel
theorem d_Ref_outside_82 : decode prog_8_method_37_code 82 = .ok (.iadd, 1) := by decide +kernel
theorem d_Ref_outside_83 : decode prog_8_method_37_code 83 = .ok (.aload_n 0, 1) := by decide +kernel
theorem d_Ref_outside_84 : decode prog_8_method_37_code 84 = .ok (.iload_n 1, 1) := by decide +kernel
theorem d_Ref_outside_85 : decode prog_8_method_37_code 85 = .ok (.invokevirtual 155, 3) := by decide +kernel
theorem d_Ref_outside_88 : decode prog_8_method_37_code 88 = .ok (.iadd, 1) := by decide +kernel
theorem d_Ref_outside_89 : decode prog_8_method_37_code 89 = .ok (.ireturn, 1) := by decide +kernel
theorem d_Ref_standsFor_0 : decode prog_8_method_38_code 0 = .ok (.aload_n 0, 1) := by decide +kernel
theorem d_Ref_standsFor_1 : decode prog_8_method_38_code 1 = .ok (.iload_n 1, 1) := by decide +kernel
theorem d_Ref_standsFor_2 : decode prog_8_method_38_code 2 = .ok (.iload_n 2, 1) := by decide +kernel
theorem d_Ref_standsFor_3 : decode prog_8_method_38_code 3 = .ok (.invokevirtual 69, 3) := by decide +kernel
theorem d_Ref_standsFor_6 : decode prog_8_method_38_code 6 = .ok (.istore_n 3, 1) := by decide +kernel
theorem d_Ref_standsFor_7 : decode prog_8_method_38_code 7 = .ok (.iload_n 3, 1) := by decide +kernel
theorem d_Ref_standsFor_8 : decode prog_8_method_38_code 8 = .ok (.ifCond .lt 12, 3) := by decide +kernel
theorem d_Ref_standsFor_11 : decode prog_8_method_38_code 11 = .ok (.aload_n 0, 1) := by decide +kernel
theorem d_Ref_standsFor_12 : decode prog_8_method_38_code 12 = .ok (.iload_n 1, 1) := by decide +kernel
theorem d_Ref_standsFor_13 : decode prog_8_method_38_code 13 = .ok (.iload_n 3, 1) := by decide +kernel
theorem d_Ref_standsFor_14 : decode prog_8_method_38_code 14 = .ok (.invokevirtual 149, 3) := by decide +kernel
theorem d_Ref_standsFor_17 : decode prog_8_method_38_code 17 = .ok (.goto 8, 3) := by decide +kernel
theorem d_Ref_standsFor_20 : decode prog_8_method_38_code 20 = .ok (.aload_n 0, 1) := by decide +kernel
theorem d_Ref_standsFor_21 : decode prog_8_method_38_code 21 = .ok (.iload_n 2, 1) := by decide +kernel
theorem d_Ref_standsFor_22 : decode prog_8_method_38_code 22 = .ok (.invokevirtual 158, 3) := by decide +kernel
theorem d_Ref_standsFor_25 : decode prog_8_method_38_code 25 = .ok (.ireturn, 1) := by decide +kernel
theorem d_Ref_write_0 : decode prog_8_method_39_code 0 = .ok (.aload_n 0, 1) := by decide +kernel
theorem d_Ref_write_1 : decode prog_8_method_39_code 1 = .ok (.iload_n 1, 1) := by decide +kernel
theorem d_Ref_write_2 : decode prog_8_method_39_code 2 = .ok (.aload_n 0, 1) := by decide +kernel
theorem d_Ref_write_3 : decode prog_8_method_39_code 3 = .ok (.getfield 22, 3) := by decide +kernel
theorem d_Ref_write_6 : decode prog_8_method_39_code 6 = .ok (.iload_n 2, 1) := by decide +kernel
theorem d_Ref_write_7 : decode prog_8_method_39_code 7 = .ok (.iaload, 1) := by decide +kernel
theorem d_Ref_write_8 : decode prog_8_method_39_code 8 = .ok (.invokevirtual 146, 3) := by decide +kernel
theorem d_Ref_write_11 : decode prog_8_method_39_code 11 = .ok (.istore_n 3, 1) := by decide +kernel
theorem d_Ref_write_12 : decode prog_8_method_39_code 12 = .ok (.iload_n 3, 1) := by decide +kernel
theorem d_Ref_write_13 : decode prog_8_method_39_code 13 = .ok (.aload_n 0, 1) := by decide +kernel
theorem d_Ref_write_14 : decode prog_8_method_39_code 14 = .ok (.iload_n 1, 1) := by decide +kernel
theorem d_Ref_write_15 : decode prog_8_method_39_code 15 = .ok (.iload_n 2, 1) := by decide +kernel
theorem d_Ref_write_16 : decode prog_8_method_39_code 16 = .ok (.aload_n 0, 1) := by decide +kernel
theorem d_Ref_write_17 : decode prog_8_method_39_code 17 = .ok (.getfield 22, 3) := by decide +kernel
theorem d_Ref_write_20 : decode prog_8_method_39_code 20 = .ok (.iload_n 2, 1) := by decide +kernel
theorem d_Ref_write_21 : decode prog_8_method_39_code 21 = .ok (.iaload, 1) := by decide +kernel
theorem d_Ref_write_22 : decode prog_8_method_39_code 22 = .ok (.invokevirtual 76, 3) := by decide +kernel
theorem d_Ref_write_25 : decode prog_8_method_39_code 25 = .ok (.iadd, 1) := by decide +kernel
theorem d_Ref_write_26 : decode prog_8_method_39_code 26 = .ok (.istore 4, 2) := by decide +kernel
theorem d_Ref_write_28 : decode prog_8_method_39_code 28 = .ok (.aload_n 0, 1) := by decide +kernel
theorem d_Ref_write_29 : decode prog_8_method_39_code 29 = .ok (.getfield 13, 3) := by decide +kernel
theorem d_Ref_write_32 : decode prog_8_method_39_code 32 = .ok (.iload_n 2, 1) := by decide +kernel
theorem d_Ref_write_33 : decode prog_8_method_39_code 33 = .ok (.iaload, 1) := by decide +kernel
theorem d_Ref_write_34 : decode prog_8_method_39_code 34 = .ok (.iconst 3, 1) := by decide +kernel
theorem d_Ref_write_35 : decode prog_8_method_39_code 35 = .ok (.if_icmp .ne 19, 3) := by decide +kernel
theorem d_Ref_write_38 : decode prog_8_method_39_code 38 = .ok (.aload_n 0, 1) := by decide +kernel
theorem d_Ref_write_39 : decode prog_8_method_39_code 39 = .ok (.getfield 42, 3) := by decide +kernel
theorem d_Ref_write_42 : decode prog_8_method_39_code 42 = .ok (.iload 4, 2) := by decide +kernel
theorem d_Ref_write_44 : decode prog_8_method_39_code 44 = .ok (.aload_n 0, 1) := by decide +kernel
theorem d_Ref_write_45 : decode prog_8_method_39_code 45 = .ok (.getfield 16, 3) := by decide +kernel
theorem d_Ref_write_48 : decode prog_8_method_39_code 48 = .ok (.iload_n 2, 1) := by decide +kernel
theorem d_Ref_write_49 : decode prog_8_method_39_code 49 = .ok (.iaload, 1) := by decide +kernel
theorem d_Ref_write_50 : decode prog_8_method_39_code 50 = .ok (.iastore, 1) := by decide +kernel
theorem d_Ref_write_51 : decode prog_8_method_39_code 51 = .ok (.goto 149, 3) := by decide +kernel
theorem d_Ref_write_54 : decode prog_8_method_39_code 54 = .ok (.aload_n 0, 1) := by decide +kernel
theorem d_Ref_write_55 : decode prog_8_method_39_code 55 = .ok (.getfield 13, 3) := by decide +kernel
theorem d_Ref_write_58 : decode prog_8_method_39_code 58 = .ok (.iload_n 2, 1) := by decide +kernel
theorem d_Ref_write_59 : decode prog_8_method_39_code 59 = .ok (.iaload, 1) := by decide +kernel
theorem d_Ref_write_60 : decode prog_8_method_39_code 60 = .ok (.iconst 4, 1) := by decide +kernel
theorem d_Ref_write_61 : decode prog_8_method_39_code 61 = .ok (.if_icmp .ne 34, 3) := by decide +kernel
theorem d_Ref_write_64 : decode prog_8_method_39_code 64 = .ok (.aload_n 0, 1) := by decide +kernel
theorem d_Ref_write_65 : decode prog_8_method_39_code 65 = .ok (.getfield 42, 3) := by decide +kernel
theorem d_Ref_write_68 : decode prog_8_method_39_code 68 = .ok (.iload 4, 2) := by decide +kernel
theorem d_Ref_write_70 : decode prog_8_method_39_code 70 = .ok (.aload_n 0, 1) := by decide +kernel
theorem d_Ref_write_71 : decode prog_8_method_39_code 71 = .ok (.iload_n 1, 1) := by decide +kernel
theorem d_Ref_write_72 : decode prog_8_method_39_code 72 = .ok (.aload_n 0, 1) := by decide +kernel
theorem d_Ref_write_73 : decode prog_8_method_39_code 73 = .ok (.getfield 16, 3) := by decide +kernel
theorem d_Ref_write_76 : decode prog_8_method_39_code 76 = .ok (.iload_n 2, 1) := by decide +kernel
theorem d_Ref_write_77 : decode prog_8_method_39_code 77 = .ok (.iaload, 1) := by decide +kernel
theorem d_Ref_write_78 : decode prog_8_method_39_code 78 = .ok (.invokevirtual 161, 3) := by decide +kernel
theorem d_Ref_write_81 : decode prog_8_method_39_code 81 = .ok (.aload_n 0, 1) := by decide +kernel
theorem d_Ref_write_82 : decode prog_8_method_39_code 82 = .ok (.getfield 19, 3) := by decide +kernel
theorem d_Ref_write_85 : decode prog_8_method_39_code 85 = .ok (.iload_n 2, 1) := by decide +kernel
theorem d_Ref_write_86 : decode prog_8_method_39_code 86 = .ok (.iaload, 1) := by decide +kernel
theorem d_Ref_write_87 : decode prog_8_method_39_code 87 = .ok (.iadd, 1) := by decide +kernel
theorem d_Ref_write_88 : decode prog_8_method_39_code 88 = .ok (.ldc 60, 2) := by decide +kernel
theorem d_Ref_write_90 : decode prog_8_method_39_code 90 = .ok (.iand, 1) := by decide +kernel
theorem d_Ref_write_91 : decode prog_8_method_39_code 91 = .ok (.iastore, 1) := by decide +kernel
theorem d_Ref_write_92 : decode prog_8_method_39_code 92 = .ok (.goto 108, 3) := by decide +kernel
theorem d_Ref_write_95 : decode prog_8_method_39_code 95 = .ok (.aload_n 0, 1) := by decide +kernel
theorem d_Ref_write_96 : decode prog_8_method_39_code 96 = .ok (.getfield 13, 3) := by decide +kernel
theorem d_Ref_write_99 : decode prog_8_method_39_code 99 = .ok (.iload_n 2, 1) := by decide +kernel
theorem d_Ref_write_100 : decode prog_8_method_39_code 100 = .ok (.iaload, 1) := by decide +kernel
theorem d_Ref_write_101 : decode prog_8_method_39_code 101 = .ok (.bipush 6, 2) := by decide +kernel
theorem d_Ref_write_103 : decode prog_8_method_39_code 103 = .ok (.if_icmp .ne 55, 3) := by decide +kernel
theorem d_Ref_write_106 : decode prog_8_method_39_code 106 = .ok (.aload_n 0, 1) := by decide +kernel
theorem d_Ref_write_107 : decode prog_8_method_39_code 107 = .ok (.getfield 25, 3) := by decide +kernel
theorem d_Ref_write_110 : decode prog_8_method_39_code 110 = .ok (.iload_n 2, 1) := by decide +kernel
theorem d_Ref_write_111 : decode prog_8_method_39_code 111 = .ok (.baload, 1) := by decide +kernel
theorem d_Ref_write_112 : decode prog_8_method_39_code 112 = .ok (.ifCond .eq 46, 3) := by decide +kernel
theorem d_Ref_write_115 : decode prog_8_method_39_code 115 = .ok (.aload_n 0, 1) := by decide +kernel
theorem d_Ref_write_116 : decode prog_8_method_39_code 116 = .ok (.getfield 42, 3) := by decide +kernel
theorem d_Ref_write_119 : decode prog_8_method_39_code 119 = .ok (.iload 4, 2) := by decide +kernel
theorem d_Ref_write_121 : decode prog_8_method_39_code 121 = .ok (.ldc 164, 2) := by decide +kernel
theorem d_Ref_write_123 : decode prog_8_method_39_code 123 = .ok (.sipush 256, 3) := by decide +kernel
theorem d_Ref_write_126 : decode prog_8_method_39_code 126 = .ok (.aload_n 0, 1) := by decide +kernel
theorem d_Ref_write_127 : decode prog_8_method_39_code 127 = .ok (.getfield 19, 3) := by decide +kernel
theorem d_Ref_write_130 : decode prog_8_method_39_code 130 = .ok (.iload_n 2, 1) := by decide +kernel
theorem d_Ref_write_131 : decode prog_8_method_39_code 131 = .ok (.iaload, 1) := by decide +kernel
theorem d_Ref_write_132 : decode prog_8_method_39_code 132 = .ok (.imul, 1) := by decide +kernel
theorem d_Ref_write_133 : decode prog_8_method_39_code 133 = .ok (.iadd, 1) := by decide +kernel
theorem d_Ref_write_134 : decode prog_8_method_39_code 134 = .ok (.iastore, 1) := by decide +kernel
theorem d_Ref_write_135 : decode prog_8_method_39_code 135 = .ok (.aload_n 0, 1) := by decide +kernel
theorem d_Ref_write_136 : decode prog_8_method_39_code 136 = .ok (.getfield 42, 3) := by decide +kernel
theorem d_Ref_write_139 : decode prog_8_method_39_code 139 = .ok (.iload 4, 2) := by decide +kernel
theorem d_Ref_write_141 : decode prog_8_method_39_code 141 = .ok (.iconst 1, 1) := by decide +kernel
theorem d_Ref_write_142 : decode prog_8_method_39_code 142 = .ok (.iadd, 1) := by decide +kernel
theorem d_Ref_write_143 : decode prog_8_method_39_code 143 = .ok (.aload_n 0, 1) := by decide +kernel
theorem d_Ref_write_144 : decode prog_8_method_39_code 144 = .ok (.iload_n 1, 1) := by decide +kernel
theorem d_Ref_write_145 : decode prog_8_method_39_code 145 = .ok (.aload_n 0, 1) := by decide +kernel
theorem d_Ref_write_146 : decode prog_8_method_39_code 146 = .ok (.getfield 16, 3) := by decide +kernel
theorem d_Ref_write_149 : decode prog_8_method_39_code 149 = .ok (.iload_n 2, 1) := by decide +kernel
theorem d_Ref_write_150 : decode prog_8_method_39_code 150 = .ok (.iaload, 1) := by decide +kernel
theorem d_Ref_write_151 : decode prog_8_method_39_code 151 = .ok (.invokevirtual 161, 3) := by decide +kernel
theorem d_Ref_write_154 : decode prog_8_method_39_code 154 = .ok (.iastore, 1) := by decide +kernel
theorem d_Ref_write_155 : decode prog_8_method_39_code 155 = .ok (.goto 45, 3) := by decide +kernel
theorem d_Ref_write_158 : decode prog_8_method_39_code 158 = .ok (.aload_n 0, 1) := by decide +kernel
theorem d_Ref_write_159 : decode prog_8_method_39_code 159 = .ok (.getfield 13, 3) := by decide +kernel
theorem d_Ref_write_162 : decode prog_8_method_39_code 162 = .ok (.iload_n 2, 1) := by decide +kernel
theorem d_Ref_write_163 : decode prog_8_method_39_code 163 = .ok (.iaload, 1) := by decide +kernel
theorem d_Ref_write_164 : decode prog_8_method_39_code 164 = .ok (.bipush 6, 2) := by decide +kernel
theorem d_Ref_write_166 : decode prog_8_method_39_code 166 = .ok (.if_icmp .ne 34, 3) := by decide +kernel
theorem d_Ref_write_169 : decode prog_8_method_39_code 169 = .ok (.aload_n 0, 1) := by decide +kernel
theorem d_Ref_write_170 : decode prog_8_method_39_code 170 = .ok (.getfield 42, 3) := by decide +kernel
theorem d_Ref_write_173 : decode prog_8_method_39_code 173 = .ok (.iload 4, 2) := by decide +kernel
theorem d_Ref_write_175 : decode prog_8_method_39_code 175 = .ok (.ldc 165, 2) := by decide +kernel
theorem d_Ref_write_177 : decode prog_8_method_39_code 177 = .ok (.sipush 256, 3) := by decide +kernel
theorem d_Ref_write_180 : decode prog_8_method_39_code 180 = .ok (.aload_n 0, 1) := by decide +kernel
theorem d_Ref_write_181 : decode prog_8_method_39_code 181 = .ok (.getfield 19, 3) := by decide +kernel
theorem d_Ref_write_184 : decode prog_8_method_39_code 184 = .ok (.iload_n 2, 1) := by decide +kernel
theorem d_Ref_write_185 : decode prog_8_method_39_code 185 = .ok (.iaload, 1) := by decide +kernel
theorem d_Ref_write_186 : decode prog_8_method_39_code 186 = .ok (.imul, 1) := by decide +kernel
theorem d_Ref_write_187 : decode prog_8_method_39_code 187 = .ok (.iadd, 1) := by decide +kernel
theorem d_Ref_write_188 : decode prog_8_method_39_code 188 = .ok (.aload_n 0, 1) := by decide +kernel
theorem d_Ref_write_189 : decode prog_8_method_39_code 189 = .ok (.iload_n 1, 1) := by decide +kernel
theorem d_Ref_write_190 : decode prog_8_method_39_code 190 = .ok (.iload_n 2, 1) := by decide +kernel
theorem d_Ref_write_191 : decode prog_8_method_39_code 191 = .ok (.invokevirtual 80, 3) := by decide +kernel
theorem d_Ref_write_194 : decode prog_8_method_39_code 194 = .ok (.sipush 255, 3) := by decide +kernel
theorem d_Ref_write_197 : decode prog_8_method_39_code 197 = .ok (.iand, 1) := by decide +kernel
theorem d_Ref_write_198 : decode prog_8_method_39_code 198 = .ok (.iadd, 1) := by decide +kernel
theorem d_Ref_write_199 : decode prog_8_method_39_code 199 = .ok (.iastore, 1) := by decide +kernel
theorem d_Ref_write_200 : decode prog_8_method_39_code 200 = .ok (.return_, 1) := by decide +kernel
theorem d_Ref_layOut_0 : decode prog_8_method_40_code 0 = .ok (.iconst 0, 1) := by decide +kernel
theorem d_Ref_layOut_1 : decode prog_8_method_40_code 1 = .ok (.istore_n 1, 1) := by decide +kernel
theorem d_Ref_layOut_2 : decode prog_8_method_40_code 2 = .ok (.iload_n 1, 1) := by decide +kernel
theorem d_Ref_layOut_3 : decode prog_8_method_40_code 3 = .ok (.sipush 200, 3) := by decide +kernel
theorem d_Ref_layOut_6 : decode prog_8_method_40_code 6 = .ok (.if_icmp .ge 16, 3) := by decide +kernel
theorem d_Ref_layOut_9 : decode prog_8_method_40_code 9 = .ok (.aload_n 0, 1) := by decide +kernel
theorem d_Ref_layOut_10 : decode prog_8_method_40_code 10 = .ok (.getfield 42, 3) := by decide +kernel
theorem d_Ref_layOut_13 : decode prog_8_method_40_code 13 = .ok (.iload_n 1, 1) := by decide +kernel
theorem d_Ref_layOut_14 : decode prog_8_method_40_code 14 = .ok (.iconst 0, 1) := by decide +kernel
theorem d_Ref_layOut_15 : decode prog_8_method_40_code 15 = .ok (.iastore, 1) := by decide +kernel
theorem d_Ref_layOut_16 : decode prog_8_method_40_code 16 = .ok (.iinc 1 1, 3) := by decide +kernel
theorem d_Ref_layOut_19 : decode prog_8_method_40_code 19 = .ok (.goto (-17), 3) := by decide +kernel
theorem d_Ref_layOut_22 : decode prog_8_method_40_code 22 = .ok (.iconst 0, 1) := by decide +kernel
theorem d_Ref_layOut_23 : decode prog_8_method_40_code 23 = .ok (.istore_n 1, 1) := by decide +kernel
theorem d_Ref_layOut_24 : decode prog_8_method_40_code 24 = .ok (.iload_n 1, 1) := by decide +kernel
theorem d_Ref_layOut_25 : decode prog_8_method_40_code 25 = .ok (.aload_n 0, 1) := by decide +kernel
theorem d_Ref_layOut_26 : decode prog_8_method_40_code 26 = .ok (.getfield 116, 3) := by decide +kernel
theorem d_Ref_layOut_29 : decode prog_8_method_40_code 29 = .ok (.if_icmp .ge 48, 3) := by decide +kernel
theorem d_Ref_layOut_32 : decode prog_8_method_40_code 32 = .ok (.aload_n 0, 1) := by decide +kernel
theorem d_Ref_layOut_33 : decode prog_8_method_40_code 33 = .ok (.getfield 39, 3) := by decide +kernel
theorem d_Ref_layOut_36 : decode prog_8_method_40_code 36 = .ok (.iload_n 1, 1) := by decide +kernel
theorem d_Ref_layOut_37 : decode prog_8_method_40_code 37 = .ok (.iaload, 1) := by decide +kernel
theorem d_Ref_layOut_38 : decode prog_8_method_40_code 38 = .ok (.istore_n 2, 1) := by decide +kernel
theorem d_Ref_layOut_39 : decode prog_8_method_40_code 39 = .ok (.bipush 20, 2) := by decide +kernel
theorem d_Ref_layOut_41 : decode prog_8_method_40_code 41 = .ok (.iload_n 2, 1) := by decide +kernel
theorem d_Ref_layOut_42 : decode prog_8_method_40_code 42 = .ok (.imul, 1) := by decide +kernel
theorem d_Ref_layOut_43 : decode prog_8_method_40_code 43 = .ok (.istore_n 3, 1) := by decide +kernel
theorem d_Ref_layOut_44 : decode prog_8_method_40_code 44 = .ok (.iload_n 3, 1) := by decide +kernel
theorem d_Ref_layOut_45 : decode prog_8_method_40_code 45 = .ok (.bipush 20, 2) := by decide +kernel
theorem d_Ref_layOut_47 : decode prog_8_method_40_code 47 = .ok (.iload_n 2, 1) := by decide +kernel
theorem d_Ref_layOut_48 : decode prog_8_method_40_code 48 = .ok (.imul, 1) := by decide +kernel
theorem d_Ref_layOut_49 : decode prog_8_method_40_code 49 = .ok (.aload_n 0, 1) := by decide +kernel
theorem d_Ref_layOut_50 : decode prog_8_method_40_code 50 = .ok (.getfield 7, 3) := by decide +kernel
theorem d_Ref_layOut_53 : decode prog_8_method_40_code 53 = .ok (.iload_n 2, 1) := by decide +kernel
theorem d_Ref_layOut_54 : decode prog_8_method_40_code 54 = .ok (.iaload, 1) := by decide +kernel
theorem d_Ref_layOut_55 : decode prog_8_method_40_code 55 = .ok (.iadd, 1) := by decide +kernel
theorem d_Ref_layOut_56 : decode prog_8_method_40_code 56 = .ok (.if_icmp .ge 15, 3) := by decide +kernel
theorem d_Ref_layOut_59 : decode prog_8_method_40_code 59 = .ok (.aload_n 0, 1) := by decide +kernel
theorem d_Ref_layOut_60 : decode prog_8_method_40_code 60 = .ok (.iload_n 2, 1) := by decide +kernel
theorem d_Ref_layOut_61 : decode prog_8_method_40_code 61 = .ok (.iload_n 3, 1) := by decide +kernel
theorem d_Ref_layOut_62 : decode prog_8_method_40_code 62 = .ok (.invokevirtual 166, 3) := by decide +kernel
theorem d_Ref_layOut_65 : decode prog_8_method_40_code 65 = .ok (.iinc 3 1, 3) := by decide +kernel
theorem d_Ref_layOut_68 : decode prog_8_method_40_code 68 = .ok (.goto (-24), 3) := by decide +kernel
theorem d_Ref_layOut_71 : decode prog_8_method_40_code 71 = .ok (.iinc 1 1, 3) := by decide +kernel
theorem d_Ref_layOut_74 : decode prog_8_method_40_code 74 = .ok (.goto (-50), 3) := by decide +kernel
theorem d_Ref_layOut_77 : decode prog_8_method_40_code 77 = .ok (.iconst 0, 1) := by decide +kernel
theorem d_Ref_layOut_78 : decode prog_8_method_40_code 78 = .ok (.istore_n 1, 1) := by decide +kernel
theorem d_Ref_layOut_79 : decode prog_8_method_40_code 79 = .ok (.iload_n 1, 1) := by decide +kernel
theorem d_Ref_layOut_80 : decode prog_8_method_40_code 80 = .ok (.bipush 16, 2) := by decide +kernel
theorem d_Ref_layOut_82 : decode prog_8_method_40_code 82 = .ok (.if_icmp .ge 20, 3) := by decide +kernel
theorem d_Ref_layOut_85 : decode prog_8_method_40_code 85 = .ok (.aload_n 0, 1) := by decide +kernel
theorem d_Ref_layOut_86 : decode prog_8_method_40_code 86 = .ok (.getfield 48, 3) := by decide +kernel
theorem d_Ref_layOut_89 : decode prog_8_method_40_code 89 = .ok (.iload_n 1, 1) := by decide +kernel
theorem d_Ref_layOut_90 : decode prog_8_method_40_code 90 = .ok (.aload_n 0, 1) := by decide +kernel
theorem d_Ref_layOut_91 : decode prog_8_method_40_code 91 = .ok (.iload_n 1, 1) := by decide +kernel
theorem d_Ref_layOut_92 : decode prog_8_method_40_code 92 = .ok (.invokevirtual 158, 3) := by decide +kernel
theorem d_Ref_layOut_95 : decode prog_8_method_40_code 95 = .ok (.iastore, 1) := by decide +kernel
theorem d_Ref_layOut_96 : decode prog_8_method_40_code 96 = .ok (.iinc 1 1, 3) := by decide +kernel
theorem d_Ref_layOut_99 : decode prog_8_method_40_code 99 = .ok (.goto (-20), 3) := by decide +kernel
theorem d_Ref_layOut_102 : decode prog_8_method_40_code 102 = .ok (.aload_n 0, 1) := by decide +kernel
theorem d_Ref_layOut_103 : decode prog_8_method_40_code 103 = .ok (.getfield 45, 3) := by decide +kernel
theorem d_Ref_layOut_106 : decode prog_8_method_40_code 106 = .ok (.iconst 0, 1) := by decide +kernel
theorem d_Ref_layOut_107 : decode prog_8_method_40_code 107 = .ok (.aload_n 0, 1) := by decide +kernel
theorem d_Ref_layOut_108 : decode prog_8_method_40_code 108 = .ok (.iconst 0, 1) := by decide +kernel
theorem d_Ref_layOut_109 : decode prog_8_method_40_code 109 = .ok (.invokevirtual 152, 3) := by decide +kernel
theorem d_Ref_layOut_112 : decode prog_8_method_40_code 112 = .ok (.iastore, 1) := by decide +kernel
theorem d_Ref_layOut_113 : decode prog_8_method_40_code 113 = .ok (.aload_n 0, 1) := by decide +kernel
theorem d_Ref_layOut_114 : decode prog_8_method_40_code 114 = .ok (.getfield 45, 3) := by decide +kernel
theorem d_Ref_layOut_117 : decode prog_8_method_40_code 117 = .ok (.iconst 1, 1) := by decide +kernel
theorem d_Ref_layOut_118 : decode prog_8_method_40_code 118 = .ok (.aload_n 0, 1) := by decide +kernel
theorem d_Ref_layOut_119 : decode prog_8_method_40_code 119 = .ok (.iconst 1, 1) := by decide +kernel
theorem d_Ref_layOut_120 : decode prog_8_method_40_code 120 = .ok (.invokevirtual 152, 3) := by decide +kernel
theorem d_Ref_layOut_123 : decode prog_8_method_40_code 123 = .ok (.iastore, 1) := by decide +kernel
theorem d_Ref_layOut_124 : decode prog_8_method_40_code 124 = .ok (.aload_n 0, 1) := by decide +kernel
theorem d_Ref_layOut_125 : decode prog_8_method_40_code 125 = .ok (.getfield 45, 3) := by decide +kernel
theorem d_Ref_layOut_128 : decode prog_8_method_40_code 128 = .ok (.iconst 2, 1) := by decide +kernel
theorem d_Ref_layOut_129 : decode prog_8_method_40_code 129 = .ok (.aload_n 0, 1) := by decide +kernel
theorem d_Ref_layOut_130 : decode prog_8_method_40_code 130 = .ok (.getfield 170, 3) := by decide +kernel
theorem d_Ref_layOut_133 : decode prog_8_method_40_code 133 = .ok (.aload_n 0, 1) := by decide +kernel
theorem d_Ref_layOut_134 : decode prog_8_method_40_code 134 = .ok (.getfield 45, 3) := by decide +kernel
theorem d_Ref_layOut_137 : decode prog_8_method_40_code 137 = .ok (.iconst 0, 1) := by decide +kernel
theorem d_Ref_layOut_138 : decode prog_8_method_40_code 138 = .ok (.iaload, 1) := by decide +kernel
theorem d_Ref_layOut_139 : decode prog_8_method_40_code 139 = .ok (.isub, 1) := by decide +kernel
theorem d_Ref_layOut_140 : decode prog_8_method_40_code 140 = .ok (.aload_n 0, 1) := by decide +kernel
theorem d_Ref_layOut_141 : decode prog_8_method_40_code 141 = .ok (.getfield 45, 3) := by decide +kernel
theorem d_Ref_layOut_144 : decode prog_8_method_40_code 144 = .ok (.iconst 1, 1) := by decide +kernel
theorem d_Ref_layOut_145 : decode prog_8_method_40_code 145 = .ok (.iaload, 1) := by decide +kernel
theorem d_Ref_layOut_146 : decode prog_8_method_40_code 146 = .ok (.isub, 1) := by decide +kernel
theorem d_Ref_layOut_147 : decode prog_8_method_40_code 147 = .ok (.iastore, 1) := by decide +kernel
theorem d_Ref_layOut_148 : decode prog_8_method_40_code 148 = .ok (.aload_n 0, 1) := by decide +kernel
theorem d_Ref_layOut_149 : decode prog_8_method_40_code 149 = .ok (.aload_n 0, 1) := by decide +kernel
theorem d_Ref_layOut_150 : decode prog_8_method_40_code 150 = .ok (.getfield 35, 3) := by decide +kernel
theorem d_Ref_layOut_153 : decode prog_8_method_40_code 153 = .ok (.ifCond .ge 7, 3) := by decide +kernel
theorem d_Ref_layOut_156 : decode prog_8_method_40_code 156 = .ok (.iconst 0, 1) := by decide +kernel
theorem d_Ref_layOut_157 : decode prog_8_method_40_code 157 = .ok (.goto 12, 3) := by decide +kernel
theorem d_Ref_layOut_160 : decode prog_8_method_40_code 160 = .ok (.aload_n 0, 1) := by decide +kernel
theorem d_Ref_layOut_161 : decode prog_8_method_40_code 161 = .ok (.getfield 48, 3) := by decide +kernel
theorem d_Ref_layOut_164 : decode prog_8_method_40_code 164 = .ok (.aload_n 0, 1) := by decide +kernel
theorem d_Ref_layOut_165 : decode prog_8_method_40_code 165 = .ok (.getfield 35, 3) := by decide +kernel
theorem d_Ref_layOut_168 : decode prog_8_method_40_code 168 = .ok (.iaload, 1) := by decide +kernel
theorem d_Ref_layOut_169 : decode prog_8_method_40_code 169 = .ok (.putfield 173, 3) := by decide +kernel
theorem d_Ref_layOut_172 : decode prog_8_method_40_code 172 = .ok (.aload_n 0, 1) := by decide +kernel
theorem d_Ref_layOut_173 : decode prog_8_method_40_code 173 = .ok (.iconst 1, 1) := by decide +kernel
theorem d_Ref_layOut_174 : decode prog_8_method_40_code 174 = .ok (.putfield 176, 3) := by decide +kernel
theorem d_Ref_layOut_177 : decode prog_8_method_40_code 177 = .ok (.aload_n 0, 1) := by decide +kernel
theorem d_Ref_layOut_178 : decode prog_8_method_40_code 178 = .ok (.iconst 0, 1) := by decide +kernel
theorem d_Ref_layOut_179 : decode prog_8_method_40_code 179 = .ok (.putfield 180, 3) := by decide +kernel
theorem d_Ref_layOut_182 : decode prog_8_method_40_code 182 = .ok (.return_, 1) := by decide +kernel
theorem d_Ref_link_0 : decode prog_8_method_41_code 0 = .ok (.iload_n 1, 1) := by decide +kernel
theorem d_Ref_link_1 : decode prog_8_method_41_code 1 = .ok (.iconst (-1), 1) := by decide +kernel
theorem d_Ref_link_2 : decode prog_8_method_41_code 2 = .ok (.if_icmp .lt 9, 3) := by decide +kernel
theorem d_Ref_link_5 : decode prog_8_method_41_code 5 = .ok (.iload_n 1, 1) := by decide +kernel
theorem d_Ref_link_6 : decode prog_8_method_41_code 6 = .ok (.bipush 15, 2) := by decide +kernel
theorem d_Ref_link_8 : decode prog_8_method_41_code 8 = .ok (.if_icmp .le 5, 3) := by decide +kernel
theorem d_Ref_link_11 : decode prog_8_method_41_code 11 = .ok (.iconst (-1), 1) := by decide +kernel
theorem d_Ref_link_12 : decode prog_8_method_41_code 12 = .ok (.ireturn, 1) := by decide +kernel
theorem d_Ref_link_13 : decode prog_8_method_41_code 13 = .ok (.aload_n 0, 1) := by decide +kernel
theorem d_Ref_link_14 : decode prog_8_method_41_code 14 = .ok (.iconst 0, 1) := by decide +kernel
theorem d_Ref_link_15 : decode prog_8_method_41_code 15 = .ok (.putfield 176, 3) := by decide +kernel
theorem d_Ref_link_18 : decode prog_8_method_41_code 18 = .ok (.aload_n 0, 1) := by decide +kernel
theorem d_Ref_link_19 : decode prog_8_method_41_code 19 = .ok (.iconst 0, 1) := by decide +kernel
theorem d_Ref_link_20 : decode prog_8_method_41_code 20 = .ok (.putfield 183, 3) := by decide +kernel
theorem d_Ref_link_23 : decode prog_8_method_41_code 23 = .ok (.aload_n 0, 1) := by decide +kernel
theorem d_Ref_link_24 : decode prog_8_method_41_code 24 = .ok (.iload_n 1, 1) := by decide +kernel
theorem d_Ref_link_25 : decode prog_8_method_41_code 25 = .ok (.putfield 35, 3) := by decide +kernel
theorem d_Ref_link_28 : decode prog_8_method_41_code 28 = .ok (.aload_n 0, 1) := by decide +kernel
theorem d_Ref_link_29 : decode prog_8_method_41_code 29 = .ok (.iconst 0, 1) := by decide +kernel
theorem d_Ref_link_30 : decode prog_8_method_41_code 30 = .ok (.putfield 116, 3) := by decide +kernel
theorem d_Ref_link_33 : decode prog_8_method_41_code 33 = .ok (.iconst 0, 1) := by decide +kernel
theorem d_Ref_link_34 : decode prog_8_method_41_code 34 = .ok (.istore_n 2, 1) := by decide +kernel
theorem d_Ref_link_35 : decode prog_8_method_41_code 35 = .ok (.iload_n 2, 1) := by decide +kernel
theorem d_Ref_link_36 : decode prog_8_method_41_code 36 = .ok (.aload_n 0, 1) := by decide +kernel
theorem d_Ref_link_37 : decode prog_8_method_41_code 37 = .ok (.getfield 104, 3) := by decide +kernel
theorem d_Ref_link_40 : decode prog_8_method_41_code 40 = .ok (.if_icmp .ge 37, 3) := by decide +kernel
theorem d_Ref_link_43 : decode prog_8_method_41_code 43 = .ok (.aload_n 0, 1) := by decide +kernel
theorem d_Ref_link_44 : decode prog_8_method_41_code 44 = .ok (.getfield 32, 3) := by decide +kernel
theorem d_Ref_link_47 : decode prog_8_method_41_code 47 = .ok (.iload_n 2, 1) := by decide +kernel
theorem d_Ref_link_48 : decode prog_8_method_41_code 48 = .ok (.iaload, 1) := by decide +kernel
theorem d_Ref_link_49 : decode prog_8_method_41_code 49 = .ok (.bipush 6, 2) := by decide +kernel
theorem d_Ref_link_51 : decode prog_8_method_41_code 51 = .ok (.if_icmp .ne 10, 3) := by decide +kernel
theorem d_Ref_link_54 : decode prog_8_method_41_code 54 = .ok (.aload_n 0, 1) := by decide +kernel
theorem d_Ref_link_55 : decode prog_8_method_41_code 55 = .ok (.invokevirtual 186, 3) := by decide +kernel
theorem d_Ref_link_58 : decode prog_8_method_41_code 58 = .ok (.goto 13, 3) := by decide +kernel
theorem d_Ref_link_61 : decode prog_8_method_41_code 61 = .ok (.aload_n 0, 1) := by decide +kernel
theorem d_Ref_link_62 : decode prog_8_method_41_code 62 = .ok (.aload_n 0, 1) := by decide +kernel
theorem d_Ref_link_63 : decode prog_8_method_41_code 63 = .ok (.getfield 32, 3) := by decide +kernel
theorem d_Ref_link_66 : decode prog_8_method_41_code 66 = .ok (.iload_n 2, 1) := by decide +kernel
theorem d_Ref_link_67 : decode prog_8_method_41_code 67 = .ok (.iaload, 1) := by decide +kernel
theorem d_Ref_link_68 : decode prog_8_method_41_code 68 = .ok (.invokevirtual 140, 3) := by decide +kernel
theorem d_Ref_link_71 : decode prog_8_method_41_code 71 = .ok (.iinc 2 1, 3) := by decide +kernel
theorem d_Ref_link_74 : decode prog_8_method_41_code 74 = .ok (.goto (-39), 3) := by decide +kernel
theorem d_Ref_link_77 : decode prog_8_method_41_code 77 = .ok (.aload_n 0, 1) := by decide +kernel
theorem d_Ref_link_78 : decode prog_8_method_41_code 78 = .ok (.iconst 0, 1) := by decide +kernel
theorem d_Ref_link_79 : decode prog_8_method_41_code 79 = .ok (.putfield 189, 3) := by decide +kernel
theorem d_Ref_link_82 : decode prog_8_method_41_code 82 = .ok (.iconst 0, 1) := by decide +kernel
theorem d_Ref_link_83 : decode prog_8_method_41_code 83 = .ok (.istore_n 2, 1) := by decide +kernel
theorem d_Ref_link_84 : decode prog_8_method_41_code 84 = .ok (.iconst 0, 1) := by decide +kernel
theorem d_Ref_link_85 : decode prog_8_method_41_code 85 = .ok (.istore_n 3, 1) := by decide +kernel
theorem d_Ref_link_86 : decode prog_8_method_41_code 86 = .ok (.iload_n 3, 1) := by decide +kernel
theorem d_Ref_link_87 : decode prog_8_method_41_code 87 = .ok (.bipush 16, 2) := by decide +kernel
theorem d_Ref_link_89 : decode prog_8_method_41_code 89 = .ok (.if_icmp .ge 55, 3) := by decide +kernel
theorem d_Ref_link_92 : decode prog_8_method_41_code 92 = .ok (.aload_n 0, 1) := by decide +kernel
theorem d_Ref_link_93 : decode prog_8_method_41_code 93 = .ok (.aload_n 0, 1) := by decide +kernel
theorem d_Ref_link_94 : decode prog_8_method_41_code 94 = .ok (.iload_n 3, 1) := by decide +kernel
theorem d_Ref_link_95 : decode prog_8_method_41_code 95 = .ok (.invokevirtual 131, 3) := by decide +kernel
theorem d_Ref_link_98 : decode prog_8_method_41_code 98 = .ok (.ifCond .eq 14, 3) := by decide +kernel
theorem d_Ref_link_101 : decode prog_8_method_41_code 101 = .ok (.aload_n 0, 1) := by decide +kernel
theorem d_Ref_link_102 : decode prog_8_method_41_code 102 = .ok (.getfield 189, 3) := by decide +kernel
theorem d_Ref_link_105 : decode prog_8_method_41_code 105 = .ok (.iconst 1, 1) := by decide +kernel
theorem d_Ref_link_106 : decode prog_8_method_41_code 106 = .ok (.iload_n 3, 1) := by decide +kernel
theorem d_Ref_link_107 : decode prog_8_method_41_code 107 = .ok (.ishl, 1) := by decide +kernel
theorem d_Ref_link_108 : decode prog_8_method_41_code 108 = .ok (.ior, 1) := by decide +kernel
theorem d_Ref_link_109 : decode prog_8_method_41_code 109 = .ok (.goto 7, 3) := by decide +kernel
theorem d_Ref_link_112 : decode prog_8_method_41_code 112 = .ok (.aload_n 0, 1) := by decide +kernel
theorem d_Ref_link_113 : decode prog_8_method_41_code 113 = .ok (.getfield 189, 3) := by decide +kernel
theorem d_Ref_link_116 : decode prog_8_method_41_code 116 = .ok (.putfield 189, 3) := by decide +kernel
theorem d_Ref_link_119 : decode prog_8_method_41_code 119 = .ok (.iload_n 2, 1) := by decide +kernel
theorem d_Ref_link_120 : decode prog_8_method_41_code 120 = .ok (.ifCond .ne 12, 3) := by decide +kernel
theorem d_Ref_link_123 : decode prog_8_method_41_code 123 = .ok (.aload_n 0, 1) := by decide +kernel
theorem d_Ref_link_124 : decode prog_8_method_41_code 124 = .ok (.iload_n 3, 1) := by decide +kernel
theorem d_Ref_link_125 : decode prog_8_method_41_code 125 = .ok (.invokevirtual 125, 3) := by decide +kernel
theorem d_Ref_link_128 : decode prog_8_method_41_code 128 = .ok (.iconst 1, 1) := by decide +kernel
theorem d_Ref_link_129 : decode prog_8_method_41_code 129 = .ok (.if_icmp .le 7, 3) := by decide +kernel
theorem d_Ref_link_132 : decode prog_8_method_41_code 132 = .ok (.iconst 1, 1) := by decide +kernel
theorem d_Ref_link_133 : decode prog_8_method_41_code 133 = .ok (.goto 4, 3) := by decide +kernel
theorem d_Ref_link_136 : decode prog_8_method_41_code 136 = .ok (.iconst 0, 1) := by decide +kernel
theorem d_Ref_link_137 : decode prog_8_method_41_code 137 = .ok (.istore_n 2, 1) := by decide +kernel
theorem d_Ref_link_138 : decode prog_8_method_41_code 138 = .ok (.iinc 3 1, 3) := by decide +kernel
theorem d_Ref_link_141 : decode prog_8_method_41_code 141 = .ok (.goto (-55), 3) := by decide +kernel
theorem d_Ref_link_144 : decode prog_8_method_41_code 144 = .ok (.iload_n 2, 1) := by decide +kernel
theorem d_Ref_link_145 : decode prog_8_method_41_code 145 = .ok (.ifCond .eq 6, 3) := by decide +kernel
theorem d_Ref_link_148 : decode prog_8_method_41_code 148 = .ok (.bipush (-2), 2) := by decide +kernel
theorem d_Ref_link_150 : decode prog_8_method_41_code 150 = .ok (.ireturn, 1) := by decide +kernel
theorem d_Ref_link_151 : decode prog_8_method_41_code 151 = .ok (.aload_n 0, 1) := by decide +kernel
theorem d_Ref_link_152 : decode prog_8_method_41_code 152 = .ok (.getfield 189, 3) := by decide +kernel
theorem d_Ref_link_155 : decode prog_8_method_41_code 155 = .ok (.ifCond .eq 6, 3) := by decide +kernel
theorem d_Ref_link_158 : decode prog_8_method_41_code 158 = .ok (.bipush (-3), 2) := by decide +kernel
theorem d_Ref_link_160 : decode prog_8_method_41_code 160 = .ok (.ireturn, 1) := by decide +kernel
theorem d_Ref_link_161 : decode prog_8_method_41_code 161 = .ok (.aload_n 0, 1) := by decide +kernel
theorem d_Ref_link_162 : decode prog_8_method_41_code 162 = .ok (.aload_n 0, 1) := by decide +kernel
theorem d_Ref_link_163 : decode prog_8_method_41_code 163 = .ok (.iconst 0, 1) := by decide +kernel
theorem d_Ref_link_164 : decode prog_8_method_41_code 164 = .ok (.invokevirtual 152, 3) := by decide +kernel
theorem d_Ref_link_167 : decode prog_8_method_41_code 167 = .ok (.aload_n 0, 1) := by decide +kernel
theorem d_Ref_link_168 : decode prog_8_method_41_code 168 = .ok (.iconst 1, 1) := by decide +kernel
theorem d_Ref_link_169 : decode prog_8_method_41_code 169 = .ok (.invokevirtual 152, 3) := by decide +kernel
theorem d_Ref_link_172 : decode prog_8_method_41_code 172 = .ok (.iadd, 1) := by decide +kernel
theorem d_Ref_link_173 : decode prog_8_method_41_code 173 = .ok (.aload_n 0, 1) := by decide +kernel
theorem d_Ref_link_174 : decode prog_8_method_41_code 174 = .ok (.iconst 2, 1) := by decide +kernel
theorem d_Ref_link_175 : decode prog_8_method_41_code 175 = .ok (.invokevirtual 152, 3) := by decide +kernel
theorem d_Ref_link_178 : decode prog_8_method_41_code 178 = .ok (.iadd, 1) := by decide +kernel
theorem d_Ref_link_179 : decode prog_8_method_41_code 179 = .ok (.aload_n 0, 1) := by decide +kernel
theorem d_Ref_link_180 : decode prog_8_method_41_code 180 = .ok (.bipush 16, 2) := by decide +kernel
theorem d_Ref_link_182 : decode prog_8_method_41_code 182 = .ok (.invokevirtual 155, 3) := by decide +kernel
theorem d_Ref_link_185 : decode prog_8_method_41_code 185 = .ok (.iadd, 1) := by decide +kernel
theorem d_Ref_link_186 : decode prog_8_method_41_code 186 = .ok (.putfield 170, 3) := by decide +kernel
theorem d_Ref_link_189 : decode prog_8_method_41_code 189 = .ok (.aload_n 0, 1) := by decide +kernel
theorem d_Ref_link_190 : decode prog_8_method_41_code 190 = .ok (.getfield 170, 3) := by decide +kernel
theorem d_Ref_link_193 : decode prog_8_method_41_code 193 = .ok (.sipush 200, 3) := by decide +kernel
theorem d_Ref_link_196 : decode prog_8_method_41_code 196 = .ok (.if_icmp .le 6, 3) := by decide +kernel
theorem d_Ref_link_199 : decode prog_8_method_41_code 199 = .ok (.bipush (-4), 2) := by decide +kernel
theorem d_Ref_link_201 : decode prog_8_method_41_code 201 = .ok (.ireturn, 1) := by decide +kernel
theorem d_Ref_link_202 : decode prog_8_method_41_code 202 = .ok (.aload_n 0, 1) := by decide +kernel
theorem d_Ref_link_203 : decode prog_8_method_41_code 203 = .ok (.invokevirtual 192, 3) := by decide +kernel
theorem d_Ref_link_206 : decode prog_8_method_41_code 206 = .ok (.iconst 0, 1) := by decide +kernel
theorem d_Ref_link_207 : decode prog_8_method_41_code 207 = .ok (.ireturn, 1) := by decide +kernel
theorem d_Ref_included_0 : decode prog_8_method_42_code 0 = .ok (.iload_n 1, 1) := by decide +kernel
theorem d_Ref_included_1 : decode prog_8_method_42_code 1 = .ok (.ifCond .lt 20, 3) := by decide +kernel
theorem d_Ref_included_4 : decode prog_8_method_42_code 4 = .ok (.iload_n 1, 1) := by decide +kernel
theorem d_Ref_included_5 : decode prog_8_method_42_code 5 = .ok (.aload_n 0, 1) := by decide +kernel
theorem d_Ref_included_6 : decode prog_8_method_42_code 6 = .ok (.getfield 116, 3) := by decide +kernel
theorem d_Ref_included_9 : decode prog_8_method_42_code 9 = .ok (.if_icmp .ge 12, 3) := by decide +kernel
theorem d_Ref_included_12 : decode prog_8_method_42_code 12 = .ok (.aload_n 0, 1) := by decide +kernel
theorem d_Ref_included_13 : decode prog_8_method_42_code 13 = .ok (.getfield 39, 3) := by decide +kernel
theorem d_Ref_included_16 : decode prog_8_method_42_code 16 = .ok (.iload_n 1, 1) := by decide +kernel
theorem d_Ref_included_17 : decode prog_8_method_42_code 17 = .ok (.iaload, 1) := by decide +kernel
theorem d_Ref_included_18 : decode prog_8_method_42_code 18 = .ok (.goto 4, 3) := by decide +kernel
theorem d_Ref_included_21 : decode prog_8_method_42_code 21 = .ok (.iconst (-1), 1) := by decide +kernel
theorem d_Ref_included_22 : decode prog_8_method_42_code 22 = .ok (.ireturn, 1) := by decide +kernel
theorem d_Ref_missing_0 : decode prog_8_method_43_code 0 = .ok (.aload_n 0, 1) := by decide +kernel
theorem d_Ref_missing_1 : decode prog_8_method_43_code 1 = .ok (.getfield 189, 3) := by decide +kernel
theorem d_Ref_missing_4 : decode prog_8_method_43_code 4 = .ok (.ireturn, 1) := by decide +kernel
theorem d_Ref_size_0 : decode prog_8_method_44_code 0 = .ok (.aload_n 0, 1) := by decide +kernel
theorem d_Ref_size_1 : decode prog_8_method_44_code 1 = .ok (.getfield 176, 3) := by decide +kernel
theorem d_Ref_size_4 : decode prog_8_method_44_code 4 = .ok (.ifCond .eq 21, 3) := by decide +kernel
theorem d_Ref_size_7 : decode prog_8_method_44_code 7 = .ok (.iload_n 1, 1) := by decide +kernel
theorem d_Ref_size_8 : decode prog_8_method_44_code 8 = .ok (.ifCond .lt 17, 3) := by decide +kernel
theorem d_Ref_size_11 : decode prog_8_method_44_code 11 = .ok (.iload_n 1, 1) := by decide +kernel
theorem d_Ref_size_12 : decode prog_8_method_44_code 12 = .ok (.iconst 2, 1) := by decide +kernel
theorem d_Ref_size_13 : decode prog_8_method_44_code 13 = .ok (.if_icmp .gt 12, 3) := by decide +kernel
theorem d_Ref_size_16 : decode prog_8_method_44_code 16 = .ok (.aload_n 0, 1) := by decide +kernel
theorem d_Ref_size_17 : decode prog_8_method_44_code 17 = .ok (.getfield 45, 3) := by decide +kernel
theorem d_Ref_size_20 : decode prog_8_method_44_code 20 = .ok (.iload_n 1, 1) := by decide +kernel
theorem d_Ref_size_21 : decode prog_8_method_44_code 21 = .ok (.iaload, 1) := by decide +kernel
theorem d_Ref_size_22 : decode prog_8_method_44_code 22 = .ok (.goto 4, 3) := by decide +kernel
theorem d_Ref_size_25 : decode prog_8_method_44_code 25 = .ok (.iconst (-1), 1) := by decide +kernel
theorem d_Ref_size_26 : decode prog_8_method_44_code 26 = .ok (.ireturn, 1) := by decide +kernel
theorem d_Ref_word_0 : decode prog_8_method_45_code 0 = .ok (.aload_n 0, 1) := by decide +kernel
theorem d_Ref_word_1 : decode prog_8_method_45_code 1 = .ok (.getfield 176, 3) := by decide +kernel
theorem d_Ref_word_4 : decode prog_8_method_45_code 4 = .ok (.ifCond .eq 24, 3) := by decide +kernel
theorem d_Ref_word_7 : decode prog_8_method_45_code 7 = .ok (.iload_n 1, 1) := by decide +kernel
theorem d_Ref_word_8 : decode prog_8_method_45_code 8 = .ok (.ifCond .lt 20, 3) := by decide +kernel
theorem d_Ref_word_11 : decode prog_8_method_45_code 11 = .ok (.iload_n 1, 1) := by decide +kernel
theorem d_Ref_word_12 : decode prog_8_method_45_code 12 = .ok (.aload_n 0, 1) := by decide +kernel
theorem d_Ref_word_13 : decode prog_8_method_45_code 13 = .ok (.getfield 170, 3) := by decide +kernel
theorem d_Ref_word_16 : decode prog_8_method_45_code 16 = .ok (.if_icmp .ge 12, 3) := by decide +kernel
theorem d_Ref_word_19 : decode prog_8_method_45_code 19 = .ok (.aload_n 0, 1) := by decide +kernel
theorem d_Ref_word_20 : decode prog_8_method_45_code 20 = .ok (.getfield 42, 3) := by decide +kernel
theorem d_Ref_word_23 : decode prog_8_method_45_code 23 = .ok (.iload_n 1, 1) := by decide +kernel
theorem d_Ref_word_24 : decode prog_8_method_45_code 24 = .ok (.iaload, 1) := by decide +kernel
theorem d_Ref_word_25 : decode prog_8_method_45_code 25 = .ok (.goto 4, 3) := by decide +kernel
theorem d_Ref_word_28 : decode prog_8_method_45_code 28 = .ok (.iconst (-1), 1) := by decide +kernel
theorem d_Ref_word_29 : decode prog_8_method_45_code 29 = .ok (.ireturn, 1) := by decide +kernel
theorem d_Ref_symbol_0 : decode prog_8_method_46_code 0 = .ok (.aload_n 0, 1) := by decide +kernel
theorem d_Ref_symbol_1 : decode prog_8_method_46_code 1 = .ok (.getfield 176, 3) := by decide +kernel
theorem d_Ref_symbol_4 : decode prog_8_method_46_code 4 = .ok (.ifCond .eq 27, 3) := by decide +kernel
theorem d_Ref_symbol_7 : decode prog_8_method_46_code 7 = .ok (.aload_n 0, 1) := by decide +kernel
theorem d_Ref_symbol_8 : decode prog_8_method_46_code 8 = .ok (.getfield 180, 3) := by decide +kernel
theorem d_Ref_symbol_11 : decode prog_8_method_46_code 11 = .ok (.ifCond .ne 20, 3) := by decide +kernel
theorem d_Ref_symbol_14 : decode prog_8_method_46_code 14 = .ok (.aload_n 0, 1) := by decide +kernel
theorem d_Ref_symbol_15 : decode prog_8_method_46_code 15 = .ok (.iload_n 1, 1) := by decide +kernel
theorem d_Ref_symbol_16 : decode prog_8_method_46_code 16 = .ok (.invokevirtual 83, 3) := by decide +kernel
theorem d_Ref_symbol_19 : decode prog_8_method_46_code 19 = .ok (.ifCond .eq 12, 3) := by decide +kernel
theorem d_Ref_symbol_22 : decode prog_8_method_46_code 22 = .ok (.aload_n 0, 1) := by decide +kernel
theorem d_Ref_symbol_23 : decode prog_8_method_46_code 23 = .ok (.getfield 48, 3) := by decide +kernel
theorem d_Ref_symbol_26 : decode prog_8_method_46_code 26 = .ok (.iload_n 1, 1) := by decide +kernel
theorem d_Ref_symbol_27 : decode prog_8_method_46_code 27 = .ok (.iaload, 1) := by decide +kernel
theorem d_Ref_symbol_28 : decode prog_8_method_46_code 28 = .ok (.goto 4, 3) := by decide +kernel
theorem d_Ref_symbol_31 : decode prog_8_method_46_code 31 = .ok (.iconst (-1), 1) := by decide +kernel
theorem d_Ref_symbol_32 : decode prog_8_method_46_code 32 = .ok (.ireturn, 1) := by decide +kernel
theorem d_Ref_strip_0 : decode prog_8_method_47_code 0 = .ok (.aload_n 0, 1) := by decide +kernel
theorem d_Ref_strip_1 : decode prog_8_method_47_code 1 = .ok (.getfield 176, 3) := by decide +kernel
theorem d_Ref_strip_4 : decode prog_8_method_47_code 4 = .ok (.ifCond .eq 10, 3) := by decide +kernel
theorem d_Ref_strip_7 : decode prog_8_method_47_code 7 = .ok (.aload_n 0, 1) := by decide +kernel
theorem d_Ref_strip_8 : decode prog_8_method_47_code 8 = .ok (.getfield 180, 3) := by decide +kernel
theorem d_Ref_strip_11 : decode prog_8_method_47_code 11 = .ok (.ifCond .eq 5, 3) := by decide +kernel
theorem d_Ref_strip_14 : decode prog_8_method_47_code 14 = .ok (.iconst 0, 1) := by decide +kernel
theorem d_Ref_strip_15 : decode prog_8_method_47_code 15 = .ok (.ireturn, 1) := by decide +kernel
theorem d_Ref_strip_16 : decode prog_8_method_47_code 16 = .ok (.aload_n 0, 1) := by decide +kernel
theorem d_Ref_strip_17 : decode prog_8_method_47_code 17 = .ok (.iconst 1, 1) := by decide +kernel
theorem d_Ref_strip_18 : decode prog_8_method_47_code 18 = .ok (.putfield 180, 3) := by decide +kernel
theorem d_Ref_strip_21 : decode prog_8_method_47_code 21 = .ok (.iconst 1, 1) := by decide +kernel
theorem d_Ref_strip_22 : decode prog_8_method_47_code 22 = .ok (.ireturn, 1) := by decide +kernel
theorem d_Ref_start_0 : decode prog_8_method_48_code 0 = .ok (.aload_n 0, 1) := by decide +kernel
theorem d_Ref_start_1 : decode prog_8_method_48_code 1 = .ok (.getfield 176, 3) := by decide +kernel
theorem d_Ref_start_4 : decode prog_8_method_48_code 4 = .ok (.ifCond .ne 5, 3) := by decide +kernel
theorem d_Ref_start_7 : decode prog_8_method_48_code 7 = .ok (.iconst 0, 1) := by decide +kernel
theorem d_Ref_start_8 : decode prog_8_method_48_code 8 = .ok (.ireturn, 1) := by decide +kernel
theorem d_Ref_start_9 : decode prog_8_method_48_code 9 = .ok (.aload_n 0, 1) := by decide +kernel
theorem d_Ref_start_10 : decode prog_8_method_48_code 10 = .ok (.iconst 1, 1) := by decide +kernel
theorem d_Ref_start_11 : decode prog_8_method_48_code 11 = .ok (.putfield 183, 3) := by decide +kernel
theorem d_Ref_start_14 : decode prog_8_method_48_code 14 = .ok (.iconst 0, 1) := by decide +kernel
theorem d_Ref_start_15 : decode prog_8_method_48_code 15 = .ok (.istore_n 1, 1) := by decide +kernel
theorem d_Ref_start_16 : decode prog_8_method_48_code 16 = .ok (.iload_n 1, 1) := by decide +kernel
theorem d_Ref_start_17 : decode prog_8_method_48_code 17 = .ok (.sipush 200, 3) := by decide +kernel
theorem d_Ref_start_20 : decode prog_8_method_48_code 20 = .ok (.if_icmp .ge 21, 3) := by decide +kernel
theorem d_Ref_start_23 : decode prog_8_method_48_code 23 = .ok (.aload_n 0, 1) := by decide +kernel
theorem d_Ref_start_24 : decode prog_8_method_48_code 24 = .ok (.getfield 51, 3) := by decide +kernel
theorem d_Ref_start_27 : decode prog_8_method_48_code 27 = .ok (.iload_n 1, 1) := by decide +kernel
theorem d_Ref_start_28 : decode prog_8_method_48_code 28 = .ok (.aload_n 0, 1) := by decide +kernel
theorem d_Ref_start_29 : decode prog_8_method_48_code 29 = .ok (.getfield 42, 3) := by decide +kernel
theorem d_Ref_start_32 : decode prog_8_method_48_code 32 = .ok (.iload_n 1, 1) := by decide +kernel
theorem d_Ref_start_33 : decode prog_8_method_48_code 33 = .ok (.iaload, 1) := by decide +kernel
theorem d_Ref_start_34 : decode prog_8_method_48_code 34 = .ok (.iastore, 1) := by decide +kernel
theorem d_Ref_start_35 : decode prog_8_method_48_code 35 = .ok (.iinc 1 1, 3) := by decide +kernel
theorem d_Ref_start_38 : decode prog_8_method_48_code 38 = .ok (.goto (-22), 3) := by decide +kernel
theorem d_Ref_start_41 : decode prog_8_method_48_code 41 = .ok (.aload_n 0, 1) := by decide +kernel
theorem d_Ref_start_42 : decode prog_8_method_48_code 42 = .ok (.iconst 0, 1) := by decide +kernel
theorem d_Ref_start_43 : decode prog_8_method_48_code 43 = .ok (.putfield 195, 3) := by decide +kernel
theorem d_Ref_start_46 : decode prog_8_method_48_code 46 = .ok (.aload_n 0, 1) := by decide +kernel
theorem d_Ref_start_47 : decode prog_8_method_48_code 47 = .ok (.iconst 0, 1) := by decide +kernel
theorem d_Ref_start_48 : decode prog_8_method_48_code 48 = .ok (.putfield 198, 3) := by decide +kernel
theorem d_Ref_start_51 : decode prog_8_method_48_code 51 = .ok (.aload_n 0, 1) := by decide +kernel
theorem d_Ref_start_52 : decode prog_8_method_48_code 52 = .ok (.aload_n 0, 1) := by decide +kernel
theorem d_Ref_start_53 : decode prog_8_method_48_code 53 = .ok (.getfield 173, 3) := by decide +kernel
theorem d_Ref_start_56 : decode prog_8_method_48_code 56 = .ok (.putfield 201, 3) := by decide +kernel
theorem d_Ref_start_59 : decode prog_8_method_48_code 59 = .ok (.aload_n 0, 1) := by decide +kernel
theorem d_Ref_start_60 : decode prog_8_method_48_code 60 = .ok (.iconst 0, 1) := by decide +kernel
theorem d_Ref_start_61 : decode prog_8_method_48_code 61 = .ok (.putfield 204, 3) := by decide +kernel
theorem d_Ref_start_64 : decode prog_8_method_48_code 64 = .ok (.aload_n 0, 1) := by decide +kernel
theorem d_Ref_start_65 : decode prog_8_method_48_code 65 = .ok (.iconst 0, 1) := by decide +kernel
theorem d_Ref_start_66 : decode prog_8_method_48_code 66 = .ok (.putfield 207, 3) := by decide +kernel
theorem d_Ref_start_69 : decode prog_8_method_48_code 69 = .ok (.aload_n 0, 1) := by decide +kernel
theorem d_Ref_start_70 : decode prog_8_method_48_code 70 = .ok (.iconst 0, 1) := by decide +kernel
theorem d_Ref_start_71 : decode prog_8_method_48_code 71 = .ok (.putfield 210, 3) := by decide +kernel
theorem d_Ref_start_74 : decode prog_8_method_48_code 74 = .ok (.aload_n 0, 1) := by decide +kernel
theorem d_Ref_start_75 : decode prog_8_method_48_code 75 = .ok (.iconst 0, 1) := by decide +kernel
theorem d_Ref_start_76 : decode prog_8_method_48_code 76 = .ok (.putfield 213, 3) := by decide +kernel
theorem d_Ref_start_79 : decode prog_8_method_48_code 79 = .ok (.iconst 1, 1) := by decide +kernel
theorem d_Ref_start_80 : decode prog_8_method_48_code 80 = .ok (.ireturn, 1) := by decide +kernel
theorem d_Ref_feed_0 : decode prog_8_method_49_code 0 = .ok (.aload_n 0, 1) := by decide +kernel
theorem d_Ref_feed_1 : decode prog_8_method_49_code 1 = .ok (.getfield 183, 3) := by decide +kernel
theorem d_Ref_feed_4 : decode prog_8_method_49_code 4 = .ok (.ifCond .eq 20, 3) := by decide +kernel
theorem d_Ref_feed_7 : decode prog_8_method_49_code 7 = .ok (.aload_n 0, 1) := by decide +kernel
theorem d_Ref_feed_8 : decode prog_8_method_49_code 8 = .ok (.iload_n 1, 1) := by decide +kernel
theorem d_Ref_feed_9 : decode prog_8_method_49_code 9 = .ok (.invokevirtual 87, 3) := by decide +kernel
theorem d_Ref_feed_12 : decode prog_8_method_49_code 12 = .ok (.ifCond .eq 12, 3) := by decide +kernel
theorem d_Ref_feed_15 : decode prog_8_method_49_code 15 = .ok (.aload_n 0, 1) := by decide +kernel
theorem d_Ref_feed_16 : decode prog_8_method_49_code 16 = .ok (.getfield 210, 3) := by decide +kernel
theorem d_Ref_feed_19 : decode prog_8_method_49_code 19 = .ok (.bipush 8, 2) := by decide +kernel
theorem d_Ref_feed_21 : decode prog_8_method_49_code 21 = .ok (.if_icmp .lt 5, 3) := by decide +kernel
theorem d_Ref_feed_24 : decode prog_8_method_49_code 24 = .ok (.iconst 0, 1) := by decide +kernel
theorem d_Ref_feed_25 : decode prog_8_method_49_code 25 = .ok (.ireturn, 1) := by decide +kernel
theorem d_Ref_feed_26 : decode prog_8_method_49_code 26 = .ok (.aload_n 0, 1) := by decide +kernel
theorem d_Ref_feed_27 : decode prog_8_method_49_code 27 = .ok (.getfield 57, 3) := by decide +kernel
theorem d_Ref_feed_30 : decode prog_8_method_49_code 30 = .ok (.aload_n 0, 1) := by decide +kernel
theorem d_Ref_feed_31 : decode prog_8_method_49_code 31 = .ok (.getfield 210, 3) := by decide +kernel
theorem d_Ref_feed_34 : decode prog_8_method_49_code 34 = .ok (.iload_n 1, 1) := by decide +kernel
theorem d_Ref_feed_35 : decode prog_8_method_49_code 35 = .ok (.iastore, 1) := by decide +kernel
theorem d_Ref_feed_36 : decode prog_8_method_49_code 36 = .ok (.aload_n 0, 1) := by decide +kernel
theorem d_Ref_feed_37 : decode prog_8_method_49_code 37 = .ok (.dup, 1) := by decide +kernel
theorem d_Ref_feed_38 : decode prog_8_method_49_code 38 = .ok (.getfield 210, 3) := by decide +kernel
theorem d_Ref_feed_41 : decode prog_8_method_49_code 41 = .ok (.iconst 1, 1) := by decide +kernel
theorem d_Ref_feed_42 : decode prog_8_method_49_code 42 = .ok (.iadd, 1) := by decide +kernel
theorem d_Ref_feed_43 : decode prog_8_method_49_code 43 = .ok (.putfield 210, 3) := by decide +kernel
theorem d_Ref_feed_46 : decode prog_8_method_49_code 46 = .ok (.iconst 1, 1) := by decide +kernel
theorem d_Ref_feed_47 : decode prog_8_method_49_code 47 = .ok (.ireturn, 1) := by decide +kernel
theorem d_Ref_there_0 : decode prog_8_method_50_code 0 = .ok (.iload_n 1, 1) := by decide +kernel
theorem d_Ref_there_1 : decode prog_8_method_50_code 1 = .ok (.ifCond .lt 15, 3) := by decide +kernel
theorem d_Ref_there_4 : decode prog_8_method_50_code 4 = .ok (.iload_n 1, 1) := by decide +kernel
theorem d_Ref_there_5 : decode prog_8_method_50_code 5 = .ok (.aload_n 0, 1) := by decide +kernel
theorem d_Ref_there_6 : decode prog_8_method_50_code 6 = .ok (.getfield 170, 3) := by decide +kernel
theorem d_Ref_there_9 : decode prog_8_method_50_code 9 = .ok (.if_icmp .ge 7, 3) := by decide +kernel
theorem d_Ref_there_12 : decode prog_8_method_50_code 12 = .ok (.iconst 1, 1) := by decide +kernel
theorem d_Ref_there_13 : decode prog_8_method_50_code 13 = .ok (.goto 4, 3) := by decide +kernel
theorem d_Ref_there_16 : decode prog_8_method_50_code 16 = .ok (.iconst 0, 1) := by decide +kernel
theorem d_Ref_there_17 : decode prog_8_method_50_code 17 = .ok (.ireturn, 1) := by decide +kernel
theorem d_Ref_holds_0 : decode prog_8_method_51_code 0 = .ok (.iload_n 1, 1) := by decide +kernel
theorem d_Ref_holds_1 : decode prog_8_method_51_code 1 = .ok (.ifCond .eq 41, 3) := by decide +kernel
theorem d_Ref_holds_4 : decode prog_8_method_51_code 4 = .ok (.iload_n 1, 1) := by decide +kernel
theorem d_Ref_holds_5 : decode prog_8_method_51_code 5 = .ok (.iconst 1, 1) := by decide +kernel
theorem d_Ref_holds_6 : decode prog_8_method_51_code 6 = .ok (.if_icmp .ne 10, 3) := by decide +kernel
theorem d_Ref_holds_9 : decode prog_8_method_51_code 9 = .ok (.aload_n 0, 1) := by decide +kernel
theorem d_Ref_holds_10 : decode prog_8_method_51_code 10 = .ok (.getfield 195, 3) := by decide +kernel
theorem d_Ref_holds_13 : decode prog_8_method_51_code 13 = .ok (.ifCond .eq 29, 3) := by decide +kernel
theorem d_Ref_holds_16 : decode prog_8_method_51_code 16 = .ok (.iload_n 1, 1) := by decide +kernel
theorem d_Ref_holds_17 : decode prog_8_method_51_code 17 = .ok (.iconst 2, 1) := by decide +kernel
theorem d_Ref_holds_18 : decode prog_8_method_51_code 18 = .ok (.if_icmp .ne 12, 3) := by decide +kernel
theorem d_Ref_holds_21 : decode prog_8_method_51_code 21 = .ok (.aload_n 0, 1) := by decide +kernel
theorem d_Ref_holds_22 : decode prog_8_method_51_code 22 = .ok (.getfield 195, 3) := by decide +kernel
theorem d_Ref_holds_25 : decode prog_8_method_51_code 25 = .ok (.ldc 164, 2) := by decide +kernel
theorem d_Ref_holds_27 : decode prog_8_method_51_code 27 = .ok (.if_icmp .ge 15, 3) := by decide +kernel
theorem d_Ref_holds_30 : decode prog_8_method_51_code 30 = .ok (.iload_n 1, 1) := by decide +kernel
theorem d_Ref_holds_31 : decode prog_8_method_51_code 31 = .ok (.iconst 3, 1) := by decide +kernel
theorem d_Ref_holds_32 : decode prog_8_method_51_code 32 = .ok (.if_icmp .ne 14, 3) := by decide +kernel
theorem d_Ref_holds_35 : decode prog_8_method_51_code 35 = .ok (.aload_n 0, 1) := by decide +kernel
theorem d_Ref_holds_36 : decode prog_8_method_51_code 36 = .ok (.getfield 195, 3) := by decide +kernel
theorem d_Ref_holds_39 : decode prog_8_method_51_code 39 = .ok (.ifCond .eq 7, 3) := by decide +kernel
theorem d_Ref_holds_42 : decode prog_8_method_51_code 42 = .ok (.iconst 1, 1) := by decide +kernel
theorem d_Ref_holds_43 : decode prog_8_method_51_code 43 = .ok (.goto 4, 3) := by decide +kernel
theorem d_Ref_holds_46 : decode prog_8_method_51_code 46 = .ok (.iconst 0, 1) := by decide +kernel
theorem d_Ref_holds_47 : decode prog_8_method_51_code 47 = .ok (.ireturn, 1) := by decide +kernel
theorem d_Ref_hindrance_0 : decode prog_8_method_52_code 0 = .ok (.aload_n 0, 1) := by decide +kernel
theorem d_Ref_hindrance_1 : decode prog_8_method_52_code 1 = .ok (.aload_n 0, 1) := by decide +kernel
theorem d_Ref_hindrance_2 : decode prog_8_method_52_code 2 = .ok (.getfield 201, 3) := by decide +kernel
theorem d_Ref_hindrance_5 : decode prog_8_method_52_code 5 = .ok (.invokevirtual 216, 3) := by decide +kernel
theorem d_Ref_hindrance_8 : decode prog_8_method_52_code 8 = .ok (.ifCond .ne 5, 3) := by decide +kernel
theorem d_Ref_hindrance_11 : decode prog_8_method_52_code 11 = .ok (.iconst 3, 1) := by decide +kernel
theorem d_Ref_hindrance_12 : decode prog_8_method_52_code 12 = .ok (.ireturn, 1) := by decide +kernel
theorem d_Ref_hindrance_13 : decode prog_8_method_52_code 13 = .ok (.aload_n 0, 1) := by decide +kernel
theorem d_Ref_hindrance_14 : decode prog_8_method_52_code 14 = .ok (.getfield 51, 3) := by decide +kernel
theorem d_Ref_hindrance_17 : decode prog_8_method_52_code 17 = .ok (.aload_n 0, 1) := by decide +kernel
theorem d_Ref_hindrance_18 : decode prog_8_method_52_code 18 = .ok (.getfield 201, 3) := by decide +kernel
theorem d_Ref_hindrance_21 : decode prog_8_method_52_code 21 = .ok (.iaload, 1) := by decide +kernel
theorem d_Ref_hindrance_22 : decode prog_8_method_52_code 22 = .ok (.bipush 12, 2) := by decide +kernel
theorem d_Ref_hindrance_24 : decode prog_8_method_52_code 24 = .ok (.ishr, 1) := by decide +kernel
theorem d_Ref_hindrance_25 : decode prog_8_method_52_code 25 = .ok (.istore_n 1, 1) := by decide +kernel
theorem d_Ref_hindrance_26 : decode prog_8_method_52_code 26 = .ok (.iload_n 1, 1) := by decide +kernel
theorem d_Ref_hindrance_27 : decode prog_8_method_52_code 27 = .ok (.bipush 13, 2) := by decide +kernel
theorem d_Ref_hindrance_29 : decode prog_8_method_52_code 29 = .ok (.if_icmp .le 5, 3) := by decide +kernel
theorem d_Ref_hindrance_32 : decode prog_8_method_52_code 32 = .ok (.iconst 2, 1) := by decide +kernel
theorem d_Ref_hindrance_33 : decode prog_8_method_52_code 33 = .ok (.ireturn, 1) := by decide +kernel
theorem d_Ref_hindrance_34 : decode prog_8_method_52_code 34 = .ok (.iload_n 1, 1) := by decide +kernel
theorem d_Ref_hindrance_35 : decode prog_8_method_52_code 35 = .ok (.bipush 12, 2) := by decide +kernel
theorem d_Ref_hindrance_37 : decode prog_8_method_52_code 37 = .ok (.if_icmp .ne 20, 3) := by decide +kernel
theorem d_Ref_hindrance_40 : decode prog_8_method_52_code 40 = .ok (.aload_n 0, 1) := by decide +kernel
theorem d_Ref_hindrance_41 : decode prog_8_method_52_code 41 = .ok (.aload_n 0, 1) := by decide +kernel
theorem d_Ref_hindrance_42 : decode prog_8_method_52_code 42 = .ok (.getfield 195, 3) := by decide +kernel
theorem d_Ref_hindrance_45 : decode prog_8_method_52_code 45 = .ok (.invokevirtual 216, 3) := by decide +kernel
theorem d_Ref_hindrance_48 : decode prog_8_method_52_code 48 = .ok (.ifCond .eq 7, 3) := by decide +kernel
theorem d_Ref_hindrance_51 : decode prog_8_method_52_code 51 = .ok (.iconst 0, 1) := by decide +kernel
theorem d_Ref_hindrance_52 : decode prog_8_method_52_code 52 = .ok (.goto 4, 3) := by decide +kernel
theorem d_Ref_hindrance_55 : decode prog_8_method_52_code 55 = .ok (.iconst 3, 1) := by decide +kernel
theorem d_Ref_hindrance_56 : decode prog_8_method_52_code 56 = .ok (.ireturn, 1) := by decide +kernel
theorem d_Ref_hindrance_57 : decode prog_8_method_52_code 57 = .ok (.iload_n 1, 1) := by decide +kernel
theorem d_Ref_hindrance_58 : decode prog_8_method_52_code 58 = .ok (.ifCond .eq 15, 3) := by decide +kernel
theorem d_Ref_hindrance_61 : decode prog_8_method_52_code 61 = .ok (.iload_n 1, 1) := by decide +kernel
theorem d_Ref_hindrance_62 : decode prog_8_method_52_code 62 = .ok (.bipush 7, 2) := by decide +kernel
theorem d_Ref_hindrance_64 : decode prog_8_method_52_code 64 = .ok (.if_icmp .eq 9, 3) := by decide +kernel
theorem d_Ref_hindrance_67 : decode prog_8_method_52_code 67 = .ok (.iload_n 1, 1) := by decide +kernel
theorem d_Ref_hindrance_68 : decode prog_8_method_52_code 68 = .ok (.bipush 8, 2) := by decide +kernel
theorem d_Ref_hindrance_70 : decode prog_8_method_52_code 70 = .ok (.if_icmp .le 5, 3) := by decide +kernel
theorem d_Ref_hindrance_73 : decode prog_8_method_52_code 73 = .ok (.iconst 0, 1) := by decide +kernel
theorem d_Ref_hindrance_74 : decode prog_8_method_52_code 74 = .ok (.ireturn, 1) := by decide +kernel
theorem d_Ref_hindrance_75 : decode prog_8_method_52_code 75 = .ok (.aload_n 0, 1) := by decide +kernel
theorem d_Ref_hindrance_76 : decode prog_8_method_52_code 76 = .ok (.aload_n 0, 1) := by decide +kernel
theorem d_Ref_hindrance_77 : decode prog_8_method_52_code 77 = .ok (.getfield 201, 3) := by decide +kernel
theorem d_Ref_hindrance_80 : decode prog_8_method_52_code 80 = .ok (.iconst 1, 1) := by decide +kernel
theorem d_Ref_hindrance_81 : decode prog_8_method_52_code 81 = .ok (.iadd, 1) := by decide +kernel
theorem d_Ref_hindrance_82 : decode prog_8_method_52_code 82 = .ok (.invokevirtual 216, 3) := by decide +kernel
theorem d_Ref_hindrance_85 : decode prog_8_method_52_code 85 = .ok (.ifCond .ne 5, 3) := by decide +kernel
theorem d_Ref_hindrance_88 : decode prog_8_method_52_code 88 = .ok (.iconst 3, 1) := by decide +kernel
theorem d_Ref_hindrance_89 : decode prog_8_method_52_code 89 = .ok (.ireturn, 1) := by decide +kernel
theorem d_Ref_hindrance_90 : decode prog_8_method_52_code 90 = .ok (.aload_n 0, 1) := by decide +kernel
theorem d_Ref_hindrance_91 : decode prog_8_method_52_code 91 = .ok (.getfield 51, 3) := by decide +kernel
theorem d_Ref_hindrance_94 : decode prog_8_method_52_code 94 = .ok (.aload_n 0, 1) := by decide +kernel
theorem d_Ref_hindrance_95 : decode prog_8_method_52_code 95 = .ok (.getfield 201, 3) := by decide +kernel
theorem d_Ref_hindrance_98 : decode prog_8_method_52_code 98 = .ok (.iconst 1, 1) := by decide +kernel
theorem d_Ref_hindrance_99 : decode prog_8_method_52_code 99 = .ok (.iadd, 1) := by decide +kernel
theorem d_Ref_hindrance_100 : decode prog_8_method_52_code 100 = .ok (.iaload, 1) := by decide +kernel
theorem d_Ref_hindrance_101 : decode prog_8_method_52_code 101 = .ok (.istore_n 2, 1) := by decide +kernel
theorem d_Ref_hindrance_102 : decode prog_8_method_52_code 102 = .ok (.iload_n 1, 1) := by decide +kernel
theorem d_Ref_hindrance_103 : decode prog_8_method_52_code 103 = .ok (.iconst 2, 1) := by decide +kernel
theorem d_Ref_hindrance_104 : decode prog_8_method_52_code 104 = .ok (.if_icmp .lt 12, 3) := by decide +kernel
theorem d_Ref_hindrance_107 : decode prog_8_method_52_code 107 = .ok (.iload_n 1, 1) := by decide +kernel
theorem d_Ref_hindrance_108 : decode prog_8_method_52_code 108 = .ok (.iconst 5, 1) := by decide +kernel
theorem d_Ref_hindrance_109 : decode prog_8_method_52_code 109 = .ok (.if_icmp .gt 7, 3) := by decide +kernel
theorem d_Ref_hindrance_112 : decode prog_8_method_52_code 112 = .ok (.iconst 1, 1) := by decide +kernel
theorem d_Ref_hindrance_113 : decode prog_8_method_52_code 113 = .ok (.goto 4, 3) := by decide +kernel
theorem d_Ref_hindrance_116 : decode prog_8_method_52_code 116 = .ok (.iconst 0, 1) := by decide +kernel
theorem d_Ref_hindrance_117 : decode prog_8_method_52_code 117 = .ok (.istore_n 3, 1) := by decide +kernel
theorem d_Ref_hindrance_118 : decode prog_8_method_52_code 118 = .ok (.iload_n 3, 1) := by decide +kernel
theorem d_Ref_hindrance_119 : decode prog_8_method_52_code 119 = .ok (.ifCond .eq 11, 3) := by decide +kernel
theorem d_Ref_hindrance_122 : decode prog_8_method_52_code 122 = .ok (.aload_n 0, 1) := by decide +kernel
theorem d_Ref_hindrance_123 : decode prog_8_method_52_code 123 = .ok (.iload_n 2, 1) := by decide +kernel
theorem d_Ref_hindrance_124 : decode prog_8_method_52_code 124 = .ok (.invokevirtual 216, 3) := by decide +kernel
theorem d_Ref_hindrance_127 : decode prog_8_method_52_code 127 = .ok (.ifCond .eq 18, 3) := by decide +kernel
theorem d_Ref_hindrance_130 : decode prog_8_method_52_code 130 = .ok (.iload_n 1, 1) := by decide +kernel
theorem d_Ref_hindrance_131 : decode prog_8_method_52_code 131 = .ok (.iconst 3, 1) := by decide +kernel
theorem d_Ref_hindrance_132 : decode prog_8_method_52_code 132 = .ok (.if_icmp .ne 17, 3) := by decide +kernel
theorem d_Ref_hindrance_135 : decode prog_8_method_52_code 135 = .ok (.iload_n 2, 1) := by decide +kernel
theorem d_Ref_hindrance_136 : decode prog_8_method_52_code 136 = .ok (.aload_n 0, 1) := by decide +kernel
theorem d_Ref_hindrance_137 : decode prog_8_method_52_code 137 = .ok (.getfield 45, 3) := by decide +kernel
theorem d_Ref_hindrance_140 : decode prog_8_method_52_code 140 = .ok (.iconst 0, 1) := by decide +kernel
theorem d_Ref_hindrance_141 : decode prog_8_method_52_code 141 = .ok (.iaload, 1) := by decide +kernel
theorem d_Ref_hindrance_142 : decode prog_8_method_52_code 142 = .ok (.if_icmp .ge 7, 3) := by decide +kernel
theorem d_Ref_hindrance_145 : decode prog_8_method_52_code 145 = .ok (.iconst 3, 1) := by decide +kernel
theorem d_Ref_hindrance_146 : decode prog_8_method_52_code 146 = .ok (.goto 4, 3) := by decide +kernel
theorem d_Ref_hindrance_149 : decode prog_8_method_52_code 149 = .ok (.iconst 0, 1) := by decide +kernel
theorem d_Ref_hindrance_150 : decode prog_8_method_52_code 150 = .ok (.ireturn, 1) := by decide +kernel
theorem d_Ref_two_0 : decode prog_8_method_53_code 0 = .ok (.aload_n 0, 1) := by decide +kernel
theorem d_Ref_two_1 : decode prog_8_method_53_code 1 = .ok (.getfield 51, 3) := by decide +kernel
theorem d_Ref_two_4 : decode prog_8_method_53_code 4 = .ok (.aload_n 0, 1) := by decide +kernel
theorem d_Ref_two_5 : decode prog_8_method_53_code 5 = .ok (.getfield 201, 3) := by decide +kernel
theorem d_Ref_two_8 : decode prog_8_method_53_code 8 = .ok (.iconst 1, 1) := by decide +kernel
theorem d_Ref_two_9 : decode prog_8_method_53_code 9 = .ok (.iadd, 1) := by decide +kernel
theorem d_Ref_two_10 : decode prog_8_method_53_code 10 = .ok (.iaload, 1) := by decide +kernel
theorem d_Ref_two_11 : decode prog_8_method_53_code 11 = .ok (.istore_n 3, 1) := by decide +kernel
theorem d_Ref_two_12 : decode prog_8_method_53_code 12 = .ok (.aload_n 0, 1) := by decide +kernel
theorem d_Ref_two_13 : decode prog_8_method_53_code 13 = .ok (.getfield 201, 3) := by decide +kernel
theorem d_Ref_two_16 : decode prog_8_method_53_code 16 = .ok (.iconst 2, 1) := by decide +kernel
theorem d_Ref_two_17 : decode prog_8_method_53_code 17 = .ok (.iadd, 1) := by decide +kernel
theorem d_Ref_two_18 : decode prog_8_method_53_code 18 = .ok (.istore 4, 2) := by decide +kernel
theorem d_Ref_two_20 : decode prog_8_method_53_code 20 = .ok (.iload_n 1, 1) := by decide +kernel
theorem d_Ref_two_21 : decode prog_8_method_53_code 21 = .ok (.tableswitch 127 1 6 #[39, 47, 60, 73, 94, 115], 39) := by decide +kernel
theorem d_Ref_two_60 : decode prog_8_method_53_code 60 = .ok (.aload_n 0, 1) := by decide +kernel
theorem d_Ref_two_61 : decode prog_8_method_53_code 61 = .ok (.iload_n 3, 1) := by decide +kernel
theorem d_Ref_two_62 : decode prog_8_method_53_code 62 = .ok (.putfield 195, 3) := by decide +kernel
theorem d_Ref_two_65 : decode prog_8_method_53_code 65 = .ok (.goto 104, 3) := by decide +kernel
theorem d_Ref_two_68 : decode prog_8_method_53_code 68 = .ok (.aload_n 0, 1) := by decide +kernel
theorem d_Ref_two_69 : decode prog_8_method_53_code 69 = .ok (.aload_n 0, 1) := by decide +kernel
theorem d_Ref_two_70 : decode prog_8_method_53_code 70 = .ok (.getfield 51, 3) := by decide +kernel
theorem d_Ref_two_73 : decode prog_8_method_53_code 73 = .ok (.iload_n 3, 1) := by decide +kernel
theorem d_Ref_two_74 : decode prog_8_method_53_code 74 = .ok (.iaload, 1) := by decide +kernel
theorem d_Ref_two_75 : decode prog_8_method_53_code 75 = .ok (.putfield 195, 3) := by decide +kernel
theorem d_Ref_two_78 : decode prog_8_method_53_code 78 = .ok (.goto 91, 3) := by decide +kernel
theorem d_Ref_two_81 : decode prog_8_method_53_code 81 = .ok (.aload_n 0, 1) := by decide +kernel
theorem d_Ref_two_82 : decode prog_8_method_53_code 82 = .ok (.getfield 51, 3) := by decide +kernel
theorem d_Ref_two_85 : decode prog_8_method_53_code 85 = .ok (.iload_n 3, 1) := by decide +kernel
theorem d_Ref_two_86 : decode prog_8_method_53_code 86 = .ok (.aload_n 0, 1) := by decide +kernel
theorem d_Ref_two_87 : decode prog_8_method_53_code 87 = .ok (.getfield 195, 3) := by decide +kernel
theorem d_Ref_two_90 : decode prog_8_method_53_code 90 = .ok (.iastore, 1) := by decide +kernel
theorem d_Ref_two_91 : decode prog_8_method_53_code 91 = .ok (.goto 78, 3) := by decide +kernel
theorem d_Ref_two_94 : decode prog_8_method_53_code 94 = .ok (.aload_n 0, 1) := by decide +kernel
theorem d_Ref_two_95 : decode prog_8_method_53_code 95 = .ok (.aload_n 0, 1) := by decide +kernel
theorem d_Ref_two_96 : decode prog_8_method_53_code 96 = .ok (.getfield 195, 3) := by decide +kernel
theorem d_Ref_two_99 : decode prog_8_method_53_code 99 = .ok (.aload_n 0, 1) := by decide +kernel
theorem d_Ref_two_100 : decode prog_8_method_53_code 100 = .ok (.getfield 51, 3) := by decide +kernel
theorem d_Ref_two_103 : decode prog_8_method_53_code 103 = .ok (.iload_n 3, 1) := by decide +kernel
theorem d_Ref_two_104 : decode prog_8_method_53_code 104 = .ok (.iaload, 1) := by decide +kernel
theorem d_Ref_two_105 : decode prog_8_method_53_code 105 = .ok (.iadd, 1) := by decide +kernel
theorem d_Ref_two_106 : decode prog_8_method_53_code 106 = .ok (.ldc 60, 2) := by decide +kernel
theorem d_Ref_two_108 : decode prog_8_method_53_code 108 = .ok (.iand, 1) := by decide +kernel
theorem d_Ref_two_109 : decode prog_8_method_53_code 109 = .ok (.putfield 195, 3) := by decide +kernel
theorem d_Ref_two_112 : decode prog_8_method_53_code 112 = .ok (.goto 57, 3) := by decide +kernel
theorem d_Ref_two_115 : decode prog_8_method_53_code 115 = .ok (.aload_n 0, 1) := by decide +kernel
theorem d_Ref_two_116 : decode prog_8_method_53_code 116 = .ok (.aload_n 0, 1) := by decide +kernel
theorem d_Ref_two_117 : decode prog_8_method_53_code 117 = .ok (.getfield 195, 3) := by decide +kernel
theorem d_Ref_two_120 : decode prog_8_method_53_code 120 = .ok (.aload_n 0, 1) := by decide +kernel
theorem d_Ref_two_121 : decode prog_8_method_53_code 121 = .ok (.getfield 51, 3) := by decide +kernel
theorem d_Ref_two_124 : decode prog_8_method_53_code 124 = .ok (.iload_n 3, 1) := by decide +kernel
theorem d_Ref_two_125 : decode prog_8_method_53_code 125 = .ok (.iaload, 1) := by decide +kernel
theorem d_Ref_two_126 : decode prog_8_method_53_code 126 = .ok (.isub, 1) := by decide +kernel
theorem d_Ref_two_127 : decode prog_8_method_53_code 127 = .ok (.ldc 60, 2) := by decide +kernel
theorem d_Ref_two_129 : decode prog_8_method_53_code 129 = .ok (.iand, 1) := by decide +kernel
theorem d_Ref_two_130 : decode prog_8_method_53_code 130 = .ok (.putfield 195, 3) := by decide +kernel
theorem d_Ref_two_133 : decode prog_8_method_53_code 133 = .ok (.goto 36, 3) := by decide +kernel
theorem d_Ref_two_136 : decode prog_8_method_53_code 136 = .ok (.aload_n 0, 1) := by decide +kernel
theorem d_Ref_two_137 : decode prog_8_method_53_code 137 = .ok (.iload 4, 2) := by decide +kernel
theorem d_Ref_two_139 : decode prog_8_method_53_code 139 = .ok (.putfield 198, 3) := by decide +kernel
theorem d_Ref_two_142 : decode prog_8_method_53_code 142 = .ok (.iload_n 3, 1) := by decide +kernel
theorem d_Ref_two_143 : decode prog_8_method_53_code 143 = .ok (.istore 4, 2) := by decide +kernel
theorem d_Ref_two_145 : decode prog_8_method_53_code 145 = .ok (.goto 24, 3) := by decide +kernel
theorem d_Ref_two_148 : decode prog_8_method_53_code 148 = .ok (.aload_n 0, 1) := by decide +kernel
theorem d_Ref_two_149 : decode prog_8_method_53_code 149 = .ok (.iload_n 2, 1) := by decide +kernel
theorem d_Ref_two_150 : decode prog_8_method_53_code 150 = .ok (.bipush 8, 2) := by decide +kernel
theorem d_Ref_two_152 : decode prog_8_method_53_code 152 = .ok (.ishr, 1) := by decide +kernel
theorem d_Ref_two_153 : decode prog_8_method_53_code 153 = .ok (.iconst 3, 1) := by decide +kernel
theorem d_Ref_two_154 : decode prog_8_method_53_code 154 = .ok (.iand, 1) := by decide +kernel
theorem d_Ref_two_155 : decode prog_8_method_53_code 155 = .ok (.invokevirtual 219, 3) := by decide +kernel
theorem d_Ref_two_158 : decode prog_8_method_53_code 158 = .ok (.ifCond .eq 7, 3) := by decide +kernel
theorem d_Ref_two_161 : decode prog_8_method_53_code 161 = .ok (.iload_n 3, 1) := by decide +kernel
theorem d_Ref_two_162 : decode prog_8_method_53_code 162 = .ok (.goto 5, 3) := by decide +kernel
theorem d_Ref_two_165 : decode prog_8_method_53_code 165 = .ok (.iload 4, 2) := by decide +kernel
theorem d_Ref_two_167 : decode prog_8_method_53_code 167 = .ok (.istore 4, 2) := by decide +kernel
theorem d_Ref_two_169 : decode prog_8_method_53_code 169 = .ok (.aload_n 0, 1) := by decide +kernel
theorem d_Ref_two_170 : decode prog_8_method_53_code 170 = .ok (.iload 4, 2) := by decide +kernel
theorem d_Ref_two_172 : decode prog_8_method_53_code 172 = .ok (.putfield 201, 3) := by decide +kernel
theorem d_Ref_two_175 : decode prog_8_method_53_code 175 = .ok (.return_, 1) := by decide +kernel
theorem d_Ref_single_0 : decode prog_8_method_54_code 0 = .ok (.aload_n 0, 1) := by decide +kernel
theorem d_Ref_single_1 : decode prog_8_method_54_code 1 = .ok (.getfield 201, 3) := by decide +kernel
theorem d_Ref_single_4 : decode prog_8_method_54_code 4 = .ok (.iconst 1, 1) := by decide +kernel
theorem d_Ref_single_5 : decode prog_8_method_54_code 5 = .ok (.iadd, 1) := by decide +kernel
theorem d_Ref_single_6 : decode prog_8_method_54_code 6 = .ok (.istore_n 3, 1) := by decide +kernel
theorem d_Ref_single_7 : decode prog_8_method_54_code 7 = .ok (.iload_n 1, 1) := by decide +kernel
theorem d_Ref_single_8 : decode prog_8_method_54_code 8 = .ok (.ifCond .ne 16, 3) := by decide +kernel
theorem d_Ref_single_11 : decode prog_8_method_54_code 11 = .ok (.aload_n 0, 1) := by decide +kernel
theorem d_Ref_single_12 : decode prog_8_method_54_code 12 = .ok (.iconst 1, 1) := by decide +kernel
theorem d_Ref_single_13 : decode prog_8_method_54_code 13 = .ok (.putfield 204, 3) := by decide +kernel
theorem d_Ref_single_16 : decode prog_8_method_54_code 16 = .ok (.aload_n 0, 1) := by decide +kernel
theorem d_Ref_single_17 : decode prog_8_method_54_code 17 = .ok (.getfield 201, 3) := by decide +kernel
theorem d_Ref_single_20 : decode prog_8_method_54_code 20 = .ok (.istore_n 3, 1) := by decide +kernel
theorem d_Ref_single_21 : decode prog_8_method_54_code 21 = .ok (.goto 245, 3) := by decide +kernel
theorem d_Ref_single_24 : decode prog_8_method_54_code 24 = .ok (.iload_n 1, 1) := by decide +kernel
theorem d_Ref_single_25 : decode prog_8_method_54_code 25 = .ok (.bipush 7, 2) := by decide +kernel
theorem d_Ref_single_27 : decode prog_8_method_54_code 27 = .ok (.if_icmp .ne 11, 3) := by decide +kernel
theorem d_Ref_single_30 : decode prog_8_method_54_code 30 = .ok (.aload_n 0, 1) := by decide +kernel
theorem d_Ref_single_31 : decode prog_8_method_54_code 31 = .ok (.getfield 198, 3) := by decide +kernel
theorem d_Ref_single_34 : decode prog_8_method_54_code 34 = .ok (.istore_n 3, 1) := by decide +kernel
theorem d_Ref_single_35 : decode prog_8_method_54_code 35 = .ok (.goto 231, 3) := by decide +kernel
theorem d_Ref_single_38 : decode prog_8_method_54_code 38 = .ok (.iload_n 1, 1) := by decide +kernel
theorem d_Ref_single_39 : decode prog_8_method_54_code 39 = .ok (.bipush 9, 2) := by decide +kernel
theorem d_Ref_single_41 : decode prog_8_method_54_code 41 = .ok (.if_icmp .ne 60, 3) := by decide +kernel
theorem d_Ref_single_44 : decode prog_8_method_54_code 44 = .ok (.iload_n 2, 1) := by decide +kernel
theorem d_Ref_single_45 : decode prog_8_method_54_code 45 = .ok (.sipush 255, 3) := by decide +kernel
theorem d_Ref_single_48 : decode prog_8_method_54_code 48 = .ok (.iand, 1) := by decide +kernel
theorem d_Ref_single_49 : decode prog_8_method_54_code 49 = .ok (.bipush 127, 2) := by decide +kernel
theorem d_Ref_single_51 : decode prog_8_method_54_code 51 = .ok (.if_icmp .le 15, 3) := by decide +kernel
theorem d_Ref_single_54 : decode prog_8_method_54_code 54 = .ok (.iload_n 2, 1) := by decide +kernel
theorem d_Ref_single_55 : decode prog_8_method_54_code 55 = .ok (.sipush 255, 3) := by decide +kernel
theorem d_Ref_single_58 : decode prog_8_method_54_code 58 = .ok (.iand, 1) := by decide +kernel
theorem d_Ref_single_59 : decode prog_8_method_54_code 59 = .ok (.sipush 256, 3) := by decide +kernel
theorem d_Ref_single_62 : decode prog_8_method_54_code 62 = .ok (.isub, 1) := by decide +kernel
theorem d_Ref_single_63 : decode prog_8_method_54_code 63 = .ok (.goto 8, 3) := by decide +kernel
theorem d_Ref_single_66 : decode prog_8_method_54_code 66 = .ok (.iload_n 2, 1) := by decide +kernel
theorem d_Ref_single_67 : decode prog_8_method_54_code 67 = .ok (.sipush 255, 3) := by decide +kernel
theorem d_Ref_single_70 : decode prog_8_method_54_code 70 = .ok (.iand, 1) := by decide +kernel
theorem d_Ref_single_71 : decode prog_8_method_54_code 71 = .ok (.istore 4, 2) := by decide +kernel
theorem d_Ref_single_73 : decode prog_8_method_54_code 73 = .ok (.aload_n 0, 1) := by decide +kernel
theorem d_Ref_single_74 : decode prog_8_method_54_code 74 = .ok (.iload_n 2, 1) := by decide +kernel
theorem d_Ref_single_75 : decode prog_8_method_54_code 75 = .ok (.bipush 8, 2) := by decide +kernel
theorem d_Ref_single_77 : decode prog_8_method_54_code 77 = .ok (.ishr, 1) := by decide +kernel
theorem d_Ref_single_78 : decode prog_8_method_54_code 78 = .ok (.iconst 3, 1) := by decide +kernel
theorem d_Ref_single_79 : decode prog_8_method_54_code 79 = .ok (.iand, 1) := by decide +kernel
theorem d_Ref_single_80 : decode prog_8_method_54_code 80 = .ok (.invokevirtual 219, 3) := by decide +kernel
theorem d_Ref_single_83 : decode prog_8_method_54_code 83 = .ok (.ifCond .eq 13, 3) := by decide +kernel
theorem d_Ref_single_86 : decode prog_8_method_54_code 86 = .ok (.iload_n 3, 1) := by decide +kernel
theorem d_Ref_single_87 : decode prog_8_method_54_code 87 = .ok (.iload 4, 2) := by decide +kernel
theorem d_Ref_single_89 : decode prog_8_method_54_code 89 = .ok (.iadd, 1) := by decide +kernel
theorem d_Ref_single_90 : decode prog_8_method_54_code 90 = .ok (.ldc 60, 2) := by decide +kernel
theorem d_Ref_single_92 : decode prog_8_method_54_code 92 = .ok (.iand, 1) := by decide +kernel
theorem d_Ref_single_93 : decode prog_8_method_54_code 93 = .ok (.goto 4, 3) := by decide +kernel
theorem d_Ref_single_96 : decode prog_8_method_54_code 96 = .ok (.iload_n 3, 1) := by decide +kernel
theorem d_Ref_single_97 : decode prog_8_method_54_code 97 = .ok (.istore_n 3, 1) := by decide +kernel
theorem d_Ref_single_98 : decode prog_8_method_54_code 98 = .ok (.goto 168, 3) := by decide +kernel
theorem d_Ref_single_101 : decode prog_8_method_54_code 101 = .ok (.iload_n 1, 1) := by decide +kernel
theorem d_Ref_single_102 : decode prog_8_method_54_code 102 = .ok (.bipush 10, 2) := by decide +kernel
theorem d_Ref_single_104 : decode prog_8_method_54_code 104 = .ok (.if_icmp .ne 62, 3) := by decide +kernel
theorem d_Ref_single_107 : decode prog_8_method_54_code 107 = .ok (.aload_n 0, 1) := by decide +kernel
theorem d_Ref_single_108 : decode prog_8_method_54_code 108 = .ok (.getfield 54, 3) := by decide +kernel
theorem d_Ref_single_111 : decode prog_8_method_54_code 111 = .ok (.iconst 3, 1) := by decide +kernel
theorem d_Ref_single_112 : decode prog_8_method_54_code 112 = .ok (.aload_n 0, 1) := by decide +kernel
theorem d_Ref_single_113 : decode prog_8_method_54_code 113 = .ok (.getfield 54, 3) := by decide +kernel
theorem d_Ref_single_116 : decode prog_8_method_54_code 116 = .ok (.iconst 2, 1) := by decide +kernel
theorem d_Ref_single_117 : decode prog_8_method_54_code 117 = .ok (.iaload, 1) := by decide +kernel
theorem d_Ref_single_118 : decode prog_8_method_54_code 118 = .ok (.iastore, 1) := by decide +kernel
theorem d_Ref_single_119 : decode prog_8_method_54_code 119 = .ok (.aload_n 0, 1) := by decide +kernel
theorem d_Ref_single_120 : decode prog_8_method_54_code 120 = .ok (.getfield 54, 3) := by decide +kernel
theorem d_Ref_single_123 : decode prog_8_method_54_code 123 = .ok (.iconst 2, 1) := by decide +kernel
theorem d_Ref_single_124 : decode prog_8_method_54_code 124 = .ok (.aload_n 0, 1) := by decide +kernel
theorem d_Ref_single_125 : decode prog_8_method_54_code 125 = .ok (.getfield 54, 3) := by decide +kernel
theorem d_Ref_single_128 : decode prog_8_method_54_code 128 = .ok (.iconst 1, 1) := by decide +kernel
theorem d_Ref_single_129 : decode prog_8_method_54_code 129 = .ok (.iaload, 1) := by decide +kernel
theorem d_Ref_single_130 : decode prog_8_method_54_code 130 = .ok (.iastore, 1) := by decide +kernel
theorem d_Ref_single_131 : decode prog_8_method_54_code 131 = .ok (.aload_n 0, 1) := by decide +kernel
theorem d_Ref_single_132 : decode prog_8_method_54_code 132 = .ok (.getfield 54, 3) := by decide +kernel
theorem d_Ref_single_135 : decode prog_8_method_54_code 135 = .ok (.iconst 1, 1) := by decide +kernel
theorem d_Ref_single_136 : decode prog_8_method_54_code 136 = .ok (.aload_n 0, 1) := by decide +kernel
theorem d_Ref_single_137 : decode prog_8_method_54_code 137 = .ok (.getfield 54, 3) := by decide +kernel
theorem d_Ref_single_140 : decode prog_8_method_54_code 140 = .ok (.iconst 0, 1) := by decide +kernel
theorem d_Ref_single_141 : decode prog_8_method_54_code 141 = .ok (.iaload, 1) := by decide +kernel
theorem d_Ref_single_142 : decode prog_8_method_54_code 142 = .ok (.iastore, 1) := by decide +kernel
theorem d_Ref_single_143 : decode prog_8_method_54_code 143 = .ok (.aload_n 0, 1) := by decide +kernel
theorem d_Ref_single_144 : decode prog_8_method_54_code 144 = .ok (.getfield 54, 3) := by decide +kernel
theorem d_Ref_single_147 : decode prog_8_method_54_code 147 = .ok (.iconst 0, 1) := by decide +kernel
theorem d_Ref_single_148 : decode prog_8_method_54_code 148 = .ok (.aload_n 0, 1) := by decide +kernel
theorem d_Ref_single_149 : decode prog_8_method_54_code 149 = .ok (.getfield 195, 3) := by decide +kernel
theorem d_Ref_single_152 : decode prog_8_method_54_code 152 = .ok (.iastore, 1) := by decide +kernel
theorem d_Ref_single_153 : decode prog_8_method_54_code 153 = .ok (.aload_n 0, 1) := by decide +kernel
theorem d_Ref_single_154 : decode prog_8_method_54_code 154 = .ok (.dup, 1) := by decide +kernel
theorem d_Ref_single_155 : decode prog_8_method_54_code 155 = .ok (.getfield 207, 3) := by decide +kernel
theorem d_Ref_single_158 : decode prog_8_method_54_code 158 = .ok (.iconst 1, 1) := by decide +kernel
theorem d_Ref_single_159 : decode prog_8_method_54_code 159 = .ok (.iadd, 1) := by decide +kernel
theorem d_Ref_single_160 : decode prog_8_method_54_code 160 = .ok (.putfield 207, 3) := by decide +kernel
theorem d_Ref_single_163 : decode prog_8_method_54_code 163 = .ok (.goto 103, 3) := by decide +kernel
theorem d_Ref_single_166 : decode prog_8_method_54_code 166 = .ok (.iload_n 1, 1) := by decide +kernel
theorem d_Ref_single_167 : decode prog_8_method_54_code 167 = .ok (.bipush 11, 2) := by decide +kernel
theorem d_Ref_single_169 : decode prog_8_method_54_code 169 = .ok (.if_icmp .ne 62, 3) := by decide +kernel
theorem d_Ref_single_172 : decode prog_8_method_54_code 172 = .ok (.aload_n 0, 1) := by decide +kernel
theorem d_Ref_single_173 : decode prog_8_method_54_code 173 = .ok (.aload_n 0, 1) := by decide +kernel
theorem d_Ref_single_174 : decode prog_8_method_54_code 174 = .ok (.getfield 213, 3) := by decide +kernel
theorem d_Ref_single_177 : decode prog_8_method_54_code 177 = .ok (.aload_n 0, 1) := by decide +kernel
theorem d_Ref_single_178 : decode prog_8_method_54_code 178 = .ok (.getfield 210, 3) := by decide +kernel
theorem d_Ref_single_181 : decode prog_8_method_54_code 181 = .ok (.if_icmp .ge 15, 3) := by decide +kernel
theorem d_Ref_single_184 : decode prog_8_method_54_code 184 = .ok (.aload_n 0, 1) := by decide +kernel
theorem d_Ref_single_185 : decode prog_8_method_54_code 185 = .ok (.getfield 57, 3) := by decide +kernel
theorem d_Ref_single_188 : decode prog_8_method_54_code 188 = .ok (.aload_n 0, 1) := by decide +kernel
theorem d_Ref_single_189 : decode prog_8_method_54_code 189 = .ok (.getfield 213, 3) := by decide +kernel
theorem d_Ref_single_192 : decode prog_8_method_54_code 192 = .ok (.iaload, 1) := by decide +kernel
theorem d_Ref_single_193 : decode prog_8_method_54_code 193 = .ok (.goto 4, 3) := by decide +kernel
theorem d_Ref_single_196 : decode prog_8_method_54_code 196 = .ok (.iconst 0, 1) := by decide +kernel
theorem d_Ref_single_197 : decode prog_8_method_54_code 197 = .ok (.putfield 195, 3) := by decide +kernel
theorem d_Ref_single_200 : decode prog_8_method_54_code 200 = .ok (.aload_n 0, 1) := by decide +kernel
theorem d_Ref_single_201 : decode prog_8_method_54_code 201 = .ok (.aload_n 0, 1) := by decide +kernel
theorem d_Ref_single_202 : decode prog_8_method_54_code 202 = .ok (.getfield 213, 3) := by decide +kernel
theorem d_Ref_single_205 : decode prog_8_method_54_code 205 = .ok (.aload_n 0, 1) := by decide +kernel
theorem d_Ref_single_206 : decode prog_8_method_54_code 206 = .ok (.getfield 210, 3) := by decide +kernel
theorem d_Ref_single_209 : decode prog_8_method_54_code 209 = .ok (.if_icmp .ge 12, 3) := by decide +kernel
theorem d_Ref_single_212 : decode prog_8_method_54_code 212 = .ok (.aload_n 0, 1) := by decide +kernel
theorem d_Ref_single_213 : decode prog_8_method_54_code 213 = .ok (.getfield 213, 3) := by decide +kernel
theorem d_Ref_single_216 : decode prog_8_method_54_code 216 = .ok (.iconst 1, 1) := by decide +kernel
theorem d_Ref_single_217 : decode prog_8_method_54_code 217 = .ok (.iadd, 1) := by decide +kernel
theorem d_Ref_single_218 : decode prog_8_method_54_code 218 = .ok (.goto 7, 3) := by decide +kernel
theorem d_Ref_single_221 : decode prog_8_method_54_code 221 = .ok (.aload_n 0, 1) := by decide +kernel
theorem d_Ref_single_222 : decode prog_8_method_54_code 222 = .ok (.getfield 213, 3) := by decide +kernel
theorem d_Ref_single_225 : decode prog_8_method_54_code 225 = .ok (.putfield 213, 3) := by decide +kernel
theorem d_Ref_single_228 : decode prog_8_method_54_code 228 = .ok (.goto 38, 3) := by decide +kernel
theorem d_Ref_single_231 : decode prog_8_method_54_code 231 = .ok (.iload_n 1, 1) := by decide +kernel
theorem d_Ref_single_232 : decode prog_8_method_54_code 232 = .ok (.bipush 12, 2) := by decide +kernel
theorem d_Ref_single_234 : decode prog_8_method_54_code 234 = .ok (.if_icmp .ne 19, 3) := by decide +kernel
theorem d_Ref_single_237 : decode prog_8_method_54_code 237 = .ok (.aload_n 0, 1) := by decide +kernel
theorem d_Ref_single_238 : decode prog_8_method_54_code 238 = .ok (.aload_n 0, 1) := by decide +kernel
theorem d_Ref_single_239 : decode prog_8_method_54_code 239 = .ok (.getfield 51, 3) := by decide +kernel
theorem d_Ref_single_242 : decode prog_8_method_54_code 242 = .ok (.aload_n 0, 1) := by decide +kernel
theorem d_Ref_single_243 : decode prog_8_method_54_code 243 = .ok (.getfield 195, 3) := by decide +kernel
theorem d_Ref_single_246 : decode prog_8_method_54_code 246 = .ok (.iaload, 1) := by decide +kernel
theorem d_Ref_single_247 : decode prog_8_method_54_code 247 = .ok (.putfield 195, 3) := by decide +kernel
theorem d_Ref_single_250 : decode prog_8_method_54_code 250 = .ok (.goto 16, 3) := by decide +kernel
theorem d_Ref_single_253 : decode prog_8_method_54_code 253 = .ok (.aload_n 0, 1) := by decide +kernel
theorem d_Ref_single_254 : decode prog_8_method_54_code 254 = .ok (.aload_n 0, 1) := by decide +kernel
theorem d_Ref_single_255 : decode prog_8_method_54_code 255 = .ok (.getfield 195, 3) := by decide +kernel
theorem d_Ref_single_258 : decode prog_8_method_54_code 258 = .ok (.iload_n 2, 1) := by decide +kernel
theorem d_Ref_single_259 : decode prog_8_method_54_code 259 = .ok (.bipush 15, 2) := by decide +kernel
theorem d_Ref_single_261 : decode prog_8_method_54_code 261 = .ok (.iand, 1) := by decide +kernel
theorem d_Ref_single_262 : decode prog_8_method_54_code 262 = .ok (.ishr, 1) := by decide +kernel
theorem d_Ref_single_263 : decode prog_8_method_54_code 263 = .ok (.putfield 195, 3) := by decide +kernel
theorem d_Ref_single_266 : decode prog_8_method_54_code 266 = .ok (.aload_n 0, 1) := by decide +kernel
theorem d_Ref_single_267 : decode prog_8_method_54_code 267 = .ok (.iload_n 3, 1) := by decide +kernel
theorem d_Ref_single_268 : decode prog_8_method_54_code 268 = .ok (.putfield 201, 3) := by decide +kernel
theorem d_Ref_single_271 : decode prog_8_method_54_code 271 = .ok (.return_, 1) := by decide +kernel
theorem d_Ref_run_0 : decode prog_8_method_55_code 0 = .ok (.aload_n 0, 1) := by decide +kernel
theorem d_Ref_run_1 : decode prog_8_method_55_code 1 = .ok (.getfield 183, 3) := by decide +kernel
theorem d_Ref_run_4 : decode prog_8_method_55_code 4 = .ok (.ifCond .eq 14, 3) := by decide +kernel
theorem d_Ref_run_7 : decode prog_8_method_55_code 7 = .ok (.iload_n 1, 1) := by decide +kernel
theorem d_Ref_run_8 : decode prog_8_method_55_code 8 = .ok (.ifCond .lt 10, 3) := by decide +kernel
theorem d_Ref_run_11 : decode prog_8_method_55_code 11 = .ok (.iload_n 1, 1) := by decide +kernel
theorem d_Ref_run_12 : decode prog_8_method_55_code 12 = .ok (.sipush 1000, 3) := by decide +kernel
theorem d_Ref_run_15 : decode prog_8_method_55_code 15 = .ok (.if_icmp .le 5, 3) := by decide +kernel
theorem d_Ref_run_18 : decode prog_8_method_55_code 18 = .ok (.iconst (-1), 1) := by decide +kernel
theorem d_Ref_run_19 : decode prog_8_method_55_code 19 = .ok (.ireturn, 1) := by decide +kernel
theorem d_Ref_run_20 : decode prog_8_method_55_code 20 = .ok (.iconst 0, 1) := by decide +kernel
theorem d_Ref_run_21 : decode prog_8_method_55_code 21 = .ok (.istore_n 2, 1) := by decide +kernel
theorem d_Ref_run_22 : decode prog_8_method_55_code 22 = .ok (.iload_n 2, 1) := by decide +kernel
theorem d_Ref_run_23 : decode prog_8_method_55_code 23 = .ok (.iload_n 1, 1) := by decide +kernel
theorem d_Ref_run_24 : decode prog_8_method_55_code 24 = .ok (.if_icmp .ge 97, 3) := by decide +kernel
theorem d_Ref_run_27 : decode prog_8_method_55_code 27 = .ok (.aload_n 0, 1) := by decide +kernel
theorem d_Ref_run_28 : decode prog_8_method_55_code 28 = .ok (.getfield 204, 3) := by decide +kernel
theorem d_Ref_run_31 : decode prog_8_method_55_code 31 = .ok (.ifCond .ne 90, 3) := by decide +kernel
theorem d_Ref_run_34 : decode prog_8_method_55_code 34 = .ok (.aload_n 0, 1) := by decide +kernel
theorem d_Ref_run_35 : decode prog_8_method_55_code 35 = .ok (.invokevirtual 222, 3) := by decide +kernel
theorem d_Ref_run_38 : decode prog_8_method_55_code 38 = .ok (.istore_n 3, 1) := by decide +kernel
theorem d_Ref_run_39 : decode prog_8_method_55_code 39 = .ok (.iload_n 3, 1) := by decide +kernel
theorem d_Ref_run_40 : decode prog_8_method_55_code 40 = .ok (.ifCond .eq 10, 3) := by decide +kernel
theorem d_Ref_run_43 : decode prog_8_method_55_code 43 = .ok (.aload_n 0, 1) := by decide +kernel
theorem d_Ref_run_44 : decode prog_8_method_55_code 44 = .ok (.iload_n 3, 1) := by decide +kernel
theorem d_Ref_run_45 : decode prog_8_method_55_code 45 = .ok (.putfield 204, 3) := by decide +kernel
theorem d_Ref_run_48 : decode prog_8_method_55_code 48 = .ok (.iload_n 2, 1) := by decide +kernel
theorem d_Ref_run_49 : decode prog_8_method_55_code 49 = .ok (.ireturn, 1) := by decide +kernel
theorem d_Ref_run_50 : decode prog_8_method_55_code 50 = .ok (.aload_n 0, 1) := by decide +kernel
theorem d_Ref_run_51 : decode prog_8_method_55_code 51 = .ok (.getfield 51, 3) := by decide +kernel
theorem d_Ref_run_54 : decode prog_8_method_55_code 54 = .ok (.aload_n 0, 1) := by decide +kernel
theorem d_Ref_run_55 : decode prog_8_method_55_code 55 = .ok (.getfield 201, 3) := by decide +kernel
theorem d_Ref_run_58 : decode prog_8_method_55_code 58 = .ok (.iaload, 1) := by decide +kernel
theorem d_Ref_run_59 : decode prog_8_method_55_code 59 = .ok (.istore 4, 2) := by decide +kernel
