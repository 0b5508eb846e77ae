theorem d_SL_init_0 : decode prog_1_method_1_code 0 = .ok (.aload_n 0, 1) := by decide +kernel
theorem d_SL_init_1 : decode prog_1_method_1_code 1 = .ok (.invokespecial 1, 3) := by decide +kernel
theorem d_SL_init_4 : decode prog_1_method_1_code 4 = .ok (.invokestatic 7, 3) := by decide +kernel
theorem d_SL_init_7 : decode prog_1_method_1_code 7 = .ok (.astore_n 1, 1) := by decide +kernel
theorem d_SL_init_8 : decode prog_1_method_1_code 8 = .ok (.new 13, 3) := by decide +kernel
theorem d_SL_init_11 : decode prog_1_method_1_code 11 = .ok (.dup, 1) := by decide +kernel
theorem d_SL_init_12 : decode prog_1_method_1_code 12 = .ok (.aload_n 1, 1) := by decide +kernel
theorem d_SL_init_13 : decode prog_1_method_1_code 13 = .ok (.invokespecial 15, 3) := by decide +kernel
theorem d_SL_init_16 : decode prog_1_method_1_code 16 = .ok (.astore_n 2, 1) := by decide +kernel
theorem d_SL_init_17 : decode prog_1_method_1_code 17 = .ok (.aload_n 0, 1) := by decide +kernel
theorem d_SL_init_18 : decode prog_1_method_1_code 18 = .ok (.aload_n 1, 1) := by decide +kernel
theorem d_SL_init_19 : decode prog_1_method_1_code 19 = .ok (.putfield 18, 3) := by decide +kernel
theorem d_SL_init_22 : decode prog_1_method_1_code 22 = .ok (.aload_n 0, 1) := by decide +kernel
theorem d_SL_init_23 : decode prog_1_method_1_code 23 = .ok (.new 22, 3) := by decide +kernel
theorem d_SL_init_26 : decode prog_1_method_1_code 26 = .ok (.dup, 1) := by decide +kernel
theorem d_SL_init_27 : decode prog_1_method_1_code 27 = .ok (.bipush 6, 2) := by decide +kernel
theorem d_SL_init_29 : decode prog_1_method_1_code 29 = .ok (.invokespecial 24, 3) := by decide +kernel
theorem d_SL_init_32 : decode prog_1_method_1_code 32 = .ok (.putfield 27, 3) := by decide +kernel
theorem d_SL_init_35 : decode prog_1_method_1_code 35 = .ok (.aload_n 0, 1) := by decide +kernel
theorem d_SL_init_36 : decode prog_1_method_1_code 36 = .ok (.new 22, 3) := by decide +kernel
theorem d_SL_init_39 : decode prog_1_method_1_code 39 = .ok (.dup, 1) := by decide +kernel
theorem d_SL_init_40 : decode prog_1_method_1_code 40 = .ok (.bipush 8, 2) := by decide +kernel
theorem d_SL_init_42 : decode prog_1_method_1_code 42 = .ok (.invokespecial 24, 3) := by decide +kernel
theorem d_SL_init_45 : decode prog_1_method_1_code 45 = .ok (.putfield 31, 3) := by decide +kernel
theorem d_SL_init_48 : decode prog_1_method_1_code 48 = .ok (.aload_n 0, 1) := by decide +kernel
theorem d_SL_init_49 : decode prog_1_method_1_code 49 = .ok (.aload_n 2, 1) := by decide +kernel
theorem d_SL_init_50 : decode prog_1_method_1_code 50 = .ok (.putfield 34, 3) := by decide +kernel
theorem d_SL_init_53 : decode prog_1_method_1_code 53 = .ok (.aload_n 0, 1) := by decide +kernel
theorem d_SL_init_54 : decode prog_1_method_1_code 54 = .ok (.new 38, 3) := by decide +kernel
theorem d_SL_init_57 : decode prog_1_method_1_code 57 = .ok (.dup, 1) := by decide +kernel
theorem d_SL_init_58 : decode prog_1_method_1_code 58 = .ok (.aload_n 1, 1) := by decide +kernel
theorem d_SL_init_59 : decode prog_1_method_1_code 59 = .ok (.aload_n 2, 1) := by decide +kernel
theorem d_SL_init_60 : decode prog_1_method_1_code 60 = .ok (.invokespecial 40, 3) := by decide +kernel
theorem d_SL_init_63 : decode prog_1_method_1_code 63 = .ok (.putfield 43, 3) := by decide +kernel
theorem d_SL_init_66 : decode prog_1_method_1_code 66 = .ok (.aload_n 0, 1) := by decide +kernel
theorem d_SL_init_67 : decode prog_1_method_1_code 67 = .ok (.new 47, 3) := by decide +kernel
theorem d_SL_init_70 : decode prog_1_method_1_code 70 = .ok (.dup, 1) := by decide +kernel
theorem d_SL_init_71 : decode prog_1_method_1_code 71 = .ok (.invokespecial 49, 3) := by decide +kernel
theorem d_SL_init_74 : decode prog_1_method_1_code 74 = .ok (.putfield 50, 3) := by decide +kernel
theorem d_SL_init_77 : decode prog_1_method_1_code 77 = .ok (.return_, 1) := by decide +kernel
theorem d_SL_add_0 : decode prog_1_method_2_code 0 = .ok (.iload_n 1, 1) := by decide +kernel
theorem d_SL_add_1 : decode prog_1_method_2_code 1 = .ok (.invokestatic 54, 3) := by decide +kernel
theorem d_SL_add_4 : decode prog_1_method_2_code 4 = .ok (.ifCond .eq 19, 3) := by decide +kernel
theorem d_SL_add_7 : decode prog_1_method_2_code 7 = .ok (.aload_n 0, 1) := by decide +kernel
theorem d_SL_add_8 : decode prog_1_method_2_code 8 = .ok (.getfield 18, 3) := by decide +kernel
theorem d_SL_add_11 : decode prog_1_method_2_code 11 = .ok (.iload_n 1, 1) := by decide +kernel
theorem d_SL_add_12 : decode prog_1_method_2_code 12 = .ok (.aaload, 1) := by decide +kernel
theorem d_SL_add_13 : decode prog_1_method_2_code 13 = .ok (.iload_n 2, 1) := by decide +kernel
theorem d_SL_add_14 : decode prog_1_method_2_code 14 = .ok (.iload_n 3, 1) := by decide +kernel
theorem d_SL_add_15 : decode prog_1_method_2_code 15 = .ok (.iload 4, 2) := by decide +kernel
theorem d_SL_add_17 : decode prog_1_method_2_code 17 = .ok (.invokevirtual 58, 3) := by decide +kernel
theorem d_SL_add_20 : decode prog_1_method_2_code 20 = .ok (.ifCond .ne 5, 3) := by decide +kernel
theorem d_SL_add_23 : decode prog_1_method_2_code 23 = .ok (.iconst 0, 1) := by decide +kernel
theorem d_SL_add_24 : decode prog_1_method_2_code 24 = .ok (.ireturn, 1) := by decide +kernel
theorem d_SL_add_25 : decode prog_1_method_2_code 25 = .ok (.aload_n 0, 1) := by decide +kernel
theorem d_SL_add_26 : decode prog_1_method_2_code 26 = .ok (.getfield 18, 3) := by decide +kernel
theorem d_SL_add_29 : decode prog_1_method_2_code 29 = .ok (.iload_n 1, 1) := by decide +kernel
theorem d_SL_add_30 : decode prog_1_method_2_code 30 = .ok (.aaload, 1) := by decide +kernel
theorem d_SL_add_31 : decode prog_1_method_2_code 31 = .ok (.iload_n 2, 1) := by decide +kernel
theorem d_SL_add_32 : decode prog_1_method_2_code 32 = .ok (.iload_n 3, 1) := by decide +kernel
theorem d_SL_add_33 : decode prog_1_method_2_code 33 = .ok (.iload 4, 2) := by decide +kernel
theorem d_SL_add_35 : decode prog_1_method_2_code 35 = .ok (.invokevirtual 64, 3) := by decide +kernel
theorem d_SL_add_38 : decode prog_1_method_2_code 38 = .ok (.iconst 1, 1) := by decide +kernel
theorem d_SL_add_39 : decode prog_1_method_2_code 39 = .ok (.ireturn, 1) := by decide +kernel
theorem d_SL_clear_0 : decode prog_1_method_3_code 0 = .ok (.iload_n 1, 1) := by decide +kernel
theorem d_SL_clear_1 : decode prog_1_method_3_code 1 = .ok (.invokestatic 54, 3) := by decide +kernel
theorem d_SL_clear_4 : decode prog_1_method_3_code 4 = .ok (.ifCond .eq 15, 3) := by decide +kernel
theorem d_SL_clear_7 : decode prog_1_method_3_code 7 = .ok (.aload_n 0, 1) := by decide +kernel
theorem d_SL_clear_8 : decode prog_1_method_3_code 8 = .ok (.getfield 18, 3) := by decide +kernel
theorem d_SL_clear_11 : decode prog_1_method_3_code 11 = .ok (.iload_n 1, 1) := by decide +kernel
theorem d_SL_clear_12 : decode prog_1_method_3_code 12 = .ok (.aaload, 1) := by decide +kernel
theorem d_SL_clear_13 : decode prog_1_method_3_code 13 = .ok (.invokevirtual 68, 3) := by decide +kernel
theorem d_SL_clear_16 : decode prog_1_method_3_code 16 = .ok (.goto 4, 3) := by decide +kernel
theorem d_SL_clear_19 : decode prog_1_method_3_code 19 = .ok (.iconst (-1), 1) := by decide +kernel
theorem d_SL_clear_20 : decode prog_1_method_3_code 20 = .ok (.ireturn, 1) := by decide +kernel
theorem d_SL_length_0 : decode prog_1_method_4_code 0 = .ok (.iload_n 1, 1) := by decide +kernel
theorem d_SL_length_1 : decode prog_1_method_4_code 1 = .ok (.invokestatic 54, 3) := by decide +kernel
theorem d_SL_length_4 : decode prog_1_method_4_code 4 = .ok (.ifCond .eq 10, 3) := by decide +kernel
theorem d_SL_length_7 : decode prog_1_method_4_code 7 = .ok (.iload_n 2, 1) := by decide +kernel
theorem d_SL_length_8 : decode prog_1_method_4_code 8 = .ok (.invokestatic 72, 3) := by decide +kernel
theorem d_SL_length_11 : decode prog_1_method_4_code 11 = .ok (.ifCond .ne 5, 3) := by decide +kernel
theorem d_SL_length_14 : decode prog_1_method_4_code 14 = .ok (.iconst (-1), 1) := by decide +kernel
theorem d_SL_length_15 : decode prog_1_method_4_code 15 = .ok (.ireturn, 1) := by decide +kernel
theorem d_SL_length_16 : decode prog_1_method_4_code 16 = .ok (.aload_n 0, 1) := by decide +kernel
theorem d_SL_length_17 : decode prog_1_method_4_code 17 = .ok (.getfield 18, 3) := by decide +kernel
theorem d_SL_length_20 : decode prog_1_method_4_code 20 = .ok (.iload_n 1, 1) := by decide +kernel
theorem d_SL_length_21 : decode prog_1_method_4_code 21 = .ok (.aaload, 1) := by decide +kernel
theorem d_SL_length_22 : decode prog_1_method_4_code 22 = .ok (.iload_n 2, 1) := by decide +kernel
theorem d_SL_length_23 : decode prog_1_method_4_code 23 = .ok (.invokevirtual 75, 3) := by decide +kernel
theorem d_SL_length_26 : decode prog_1_method_4_code 26 = .ok (.ireturn, 1) := by decide +kernel
theorem d_SL_isLong_0 : decode prog_1_method_5_code 0 = .ok (.iload_n 1, 1) := by decide +kernel
theorem d_SL_isLong_1 : decode prog_1_method_5_code 1 = .ok (.invokestatic 54, 3) := by decide +kernel
theorem d_SL_isLong_4 : decode prog_1_method_5_code 4 = .ok (.ifCond .eq 20, 3) := by decide +kernel
theorem d_SL_isLong_7 : decode prog_1_method_5_code 7 = .ok (.aload_n 0, 1) := by decide +kernel
theorem d_SL_isLong_8 : decode prog_1_method_5_code 8 = .ok (.getfield 18, 3) := by decide +kernel
theorem d_SL_isLong_11 : decode prog_1_method_5_code 11 = .ok (.iload_n 1, 1) := by decide +kernel
theorem d_SL_isLong_12 : decode prog_1_method_5_code 12 = .ok (.aaload, 1) := by decide +kernel
theorem d_SL_isLong_13 : decode prog_1_method_5_code 13 = .ok (.iload_n 2, 1) := by decide +kernel
theorem d_SL_isLong_14 : decode prog_1_method_5_code 14 = .ok (.invokevirtual 79, 3) := by decide +kernel
theorem d_SL_isLong_17 : decode prog_1_method_5_code 17 = .ok (.ifCond .eq 7, 3) := by decide +kernel
theorem d_SL_isLong_20 : decode prog_1_method_5_code 20 = .ok (.iconst 1, 1) := by decide +kernel
theorem d_SL_isLong_21 : decode prog_1_method_5_code 21 = .ok (.goto 4, 3) := by decide +kernel
theorem d_SL_isLong_24 : decode prog_1_method_5_code 24 = .ok (.iconst 0, 1) := by decide +kernel
theorem d_SL_isLong_25 : decode prog_1_method_5_code 25 = .ok (.ireturn, 1) := by decide +kernel
theorem d_SL_store_0 : decode prog_1_method_6_code 0 = .ok (.iload_n 1, 1) := by decide +kernel
theorem d_SL_store_1 : decode prog_1_method_6_code 1 = .ok (.invokestatic 54, 3) := by decide +kernel
theorem d_SL_store_4 : decode prog_1_method_6_code 4 = .ok (.ifCond .eq 23, 3) := by decide +kernel
theorem d_SL_store_7 : decode prog_1_method_6_code 7 = .ok (.aload_n 0, 1) := by decide +kernel
theorem d_SL_store_8 : decode prog_1_method_6_code 8 = .ok (.getfield 31, 3) := by decide +kernel
theorem d_SL_store_11 : decode prog_1_method_6_code 11 = .ok (.iload_n 1, 1) := by decide +kernel
theorem d_SL_store_12 : decode prog_1_method_6_code 12 = .ok (.invokevirtual 82, 3) := by decide +kernel
theorem d_SL_store_15 : decode prog_1_method_6_code 15 = .ok (.ifCond .ne 12, 3) := by decide +kernel
theorem d_SL_store_18 : decode prog_1_method_6_code 18 = .ok (.aload_n 0, 1) := by decide +kernel
theorem d_SL_store_19 : decode prog_1_method_6_code 19 = .ok (.iload_n 1, 1) := by decide +kernel
theorem d_SL_store_20 : decode prog_1_method_6_code 20 = .ok (.iload_n 2, 1) := by decide +kernel
theorem d_SL_store_21 : decode prog_1_method_6_code 21 = .ok (.invokevirtual 85, 3) := by decide +kernel
theorem d_SL_store_24 : decode prog_1_method_6_code 24 = .ok (.ifCond .ne 5, 3) := by decide +kernel
theorem d_SL_store_27 : decode prog_1_method_6_code 27 = .ok (.iconst 0, 1) := by decide +kernel
theorem d_SL_store_28 : decode prog_1_method_6_code 28 = .ok (.ireturn, 1) := by decide +kernel
theorem d_SL_store_29 : decode prog_1_method_6_code 29 = .ok (.aload_n 0, 1) := by decide +kernel
theorem d_SL_store_30 : decode prog_1_method_6_code 30 = .ok (.getfield 27, 3) := by decide +kernel
theorem d_SL_store_33 : decode prog_1_method_6_code 33 = .ok (.iload_n 1, 1) := by decide +kernel
theorem d_SL_store_34 : decode prog_1_method_6_code 34 = .ok (.invokevirtual 89, 3) := by decide +kernel
theorem d_SL_store_37 : decode prog_1_method_6_code 37 = .ok (.pop, 1) := by decide +kernel
theorem d_SL_store_38 : decode prog_1_method_6_code 38 = .ok (.iload_n 2, 1) := by decide +kernel
theorem d_SL_store_39 : decode prog_1_method_6_code 39 = .ok (.iconst (-1), 1) := by decide +kernel
theorem d_SL_store_40 : decode prog_1_method_6_code 40 = .ok (.if_icmp .ne 15, 3) := by decide +kernel
theorem d_SL_store_43 : decode prog_1_method_6_code 43 = .ok (.aload_n 0, 1) := by decide +kernel
theorem d_SL_store_44 : decode prog_1_method_6_code 44 = .ok (.getfield 27, 3) := by decide +kernel
theorem d_SL_store_47 : decode prog_1_method_6_code 47 = .ok (.iload_n 1, 1) := by decide +kernel
theorem d_SL_store_48 : decode prog_1_method_6_code 48 = .ok (.invokevirtual 92, 3) := by decide +kernel
theorem d_SL_store_51 : decode prog_1_method_6_code 51 = .ok (.pop, 1) := by decide +kernel
theorem d_SL_store_52 : decode prog_1_method_6_code 52 = .ok (.goto 20, 3) := by decide +kernel
theorem d_SL_store_55 : decode prog_1_method_6_code 55 = .ok (.aload_n 0, 1) := by decide +kernel
theorem d_SL_store_56 : decode prog_1_method_6_code 56 = .ok (.getfield 27, 3) := by decide +kernel
theorem d_SL_store_59 : decode prog_1_method_6_code 59 = .ok (.aload_n 0, 1) := by decide +kernel
theorem d_SL_store_60 : decode prog_1_method_6_code 60 = .ok (.getfield 27, 3) := by decide +kernel
theorem d_SL_store_63 : decode prog_1_method_6_code 63 = .ok (.iload_n 2, 1) := by decide +kernel
theorem d_SL_store_64 : decode prog_1_method_6_code 64 = .ok (.invokevirtual 94, 3) := by decide +kernel
theorem d_SL_store_67 : decode prog_1_method_6_code 67 = .ok (.iload_n 1, 1) := by decide +kernel
theorem d_SL_store_68 : decode prog_1_method_6_code 68 = .ok (.invokevirtual 97, 3) := by decide +kernel
theorem d_SL_store_71 : decode prog_1_method_6_code 71 = .ok (.pop, 1) := by decide +kernel
theorem d_SL_store_72 : decode prog_1_method_6_code 72 = .ok (.iconst 1, 1) := by decide +kernel
theorem d_SL_store_73 : decode prog_1_method_6_code 73 = .ok (.ireturn, 1) := by decide +kernel
theorem d_SL_remove_0 : decode prog_1_method_7_code 0 = .ok (.aload_n 0, 1) := by decide +kernel
theorem d_SL_remove_1 : decode prog_1_method_7_code 1 = .ok (.getfield 27, 3) := by decide +kernel
theorem d_SL_remove_4 : decode prog_1_method_7_code 4 = .ok (.iload_n 1, 1) := by decide +kernel
theorem d_SL_remove_5 : decode prog_1_method_7_code 5 = .ok (.invokevirtual 89, 3) := by decide +kernel
theorem d_SL_remove_8 : decode prog_1_method_7_code 8 = .ok (.ireturn, 1) := by decide +kernel
theorem d_SL_member_0 : decode prog_1_method_8_code 0 = .ok (.aload_n 0, 1) := by decide +kernel
theorem d_SL_member_1 : decode prog_1_method_8_code 1 = .ok (.getfield 27, 3) := by decide +kernel
theorem d_SL_member_4 : decode prog_1_method_8_code 4 = .ok (.iload_n 1, 1) := by decide +kernel
theorem d_SL_member_5 : decode prog_1_method_8_code 5 = .ok (.invokevirtual 100, 3) := by decide +kernel
theorem d_SL_member_8 : decode prog_1_method_8_code 8 = .ok (.ireturn, 1) := by decide +kernel
theorem d_SL_item_0 : decode prog_1_method_9_code 0 = .ok (.iload_n 1, 1) := by decide +kernel
theorem d_SL_item_1 : decode prog_1_method_9_code 1 = .ok (.bipush 6, 2) := by decide +kernel
theorem d_SL_item_3 : decode prog_1_method_9_code 3 = .ok (.if_icmp .eq 13, 3) := by decide +kernel
theorem d_SL_item_6 : decode prog_1_method_9_code 6 = .ok (.aload_n 0, 1) := by decide +kernel
theorem d_SL_item_7 : decode prog_1_method_9_code 7 = .ok (.iload_n 1, 1) := by decide +kernel
theorem d_SL_item_8 : decode prog_1_method_9_code 8 = .ok (.invokevirtual 103, 3) := by decide +kernel
theorem d_SL_item_11 : decode prog_1_method_9_code 11 = .ok (.ifCond .ne 5, 3) := by decide +kernel
theorem d_SL_item_14 : decode prog_1_method_9_code 14 = .ok (.iconst 0, 1) := by decide +kernel
theorem d_SL_item_15 : decode prog_1_method_9_code 15 = .ok (.ireturn, 1) := by decide +kernel
theorem d_SL_item_16 : decode prog_1_method_9_code 16 = .ok (.aload_n 0, 1) := by decide +kernel
theorem d_SL_item_17 : decode prog_1_method_9_code 17 = .ok (.getfield 31, 3) := by decide +kernel
theorem d_SL_item_20 : decode prog_1_method_9_code 20 = .ok (.iload_n 1, 1) := by decide +kernel
theorem d_SL_item_21 : decode prog_1_method_9_code 21 = .ok (.invokevirtual 92, 3) := by decide +kernel
theorem d_SL_item_24 : decode prog_1_method_9_code 24 = .ok (.ireturn, 1) := by decide +kernel
theorem d_SL_newLine_0 : decode prog_1_method_10_code 0 = .ok (.aload_n 0, 1) := by decide +kernel
theorem d_SL_newLine_1 : decode prog_1_method_10_code 1 = .ok (.getfield 31, 3) := by decide +kernel
theorem d_SL_newLine_4 : decode prog_1_method_10_code 4 = .ok (.invokevirtual 106, 3) := by decide +kernel
theorem d_SL_newLine_7 : decode prog_1_method_10_code 7 = .ok (.return_, 1) := by decide +kernel
theorem d_SL_link_0 : decode prog_1_method_11_code 0 = .ok (.iload_n 1, 1) := by decide +kernel
theorem d_SL_link_1 : decode prog_1_method_11_code 1 = .ok (.iconst (-1), 1) := by decide +kernel
theorem d_SL_link_2 : decode prog_1_method_11_code 2 = .ok (.if_icmp .eq 12, 3) := by decide +kernel
theorem d_SL_link_5 : decode prog_1_method_11_code 5 = .ok (.iload_n 1, 1) := by decide +kernel
theorem d_SL_link_6 : decode prog_1_method_11_code 6 = .ok (.invokestatic 109, 3) := by decide +kernel
theorem d_SL_link_9 : decode prog_1_method_11_code 9 = .ok (.ifCond .ne 5, 3) := by decide +kernel
theorem d_SL_link_12 : decode prog_1_method_11_code 12 = .ok (.iconst (-1), 1) := by decide +kernel
theorem d_SL_link_13 : decode prog_1_method_11_code 13 = .ok (.ireturn, 1) := by decide +kernel
theorem d_SL_link_14 : decode prog_1_method_11_code 14 = .ok (.aload_n 0, 1) := by decide +kernel
theorem d_SL_link_15 : decode prog_1_method_11_code 15 = .ok (.getfield 43, 3) := by decide +kernel
theorem d_SL_link_18 : decode prog_1_method_11_code 18 = .ok (.invokevirtual 112, 3) := by decide +kernel
theorem d_SL_link_21 : decode prog_1_method_11_code 21 = .ok (.aload_n 0, 1) := by decide +kernel
theorem d_SL_link_22 : decode prog_1_method_11_code 22 = .ok (.getfield 50, 3) := by decide +kernel
theorem d_SL_link_25 : decode prog_1_method_11_code 25 = .ok (.invokevirtual 115, 3) := by decide +kernel
theorem d_SL_link_28 : decode prog_1_method_11_code 28 = .ok (.aload_n 0, 1) := by decide +kernel
theorem d_SL_link_29 : decode prog_1_method_11_code 29 = .ok (.getfield 34, 3) := by decide +kernel
theorem d_SL_link_32 : decode prog_1_method_11_code 32 = .ok (.aload_n 0, 1) := by decide +kernel
theorem d_SL_link_33 : decode prog_1_method_11_code 33 = .ok (.getfield 31, 3) := by decide +kernel
theorem d_SL_link_36 : decode prog_1_method_11_code 36 = .ok (.aload_n 0, 1) := by decide +kernel
theorem d_SL_link_37 : decode prog_1_method_11_code 37 = .ok (.getfield 27, 3) := by decide +kernel
theorem d_SL_link_40 : decode prog_1_method_11_code 40 = .ok (.iload_n 1, 1) := by decide +kernel
theorem d_SL_link_41 : decode prog_1_method_11_code 41 = .ok (.invokevirtual 116, 3) := by decide +kernel
theorem d_SL_link_44 : decode prog_1_method_11_code 44 = .ok (.aload_n 0, 1) := by decide +kernel
theorem d_SL_link_45 : decode prog_1_method_11_code 45 = .ok (.getfield 34, 3) := by decide +kernel
theorem d_SL_link_48 : decode prog_1_method_11_code 48 = .ok (.invokevirtual 120, 3) := by decide +kernel
theorem d_SL_link_51 : decode prog_1_method_11_code 51 = .ok (.ifCond .eq 6, 3) := by decide +kernel
theorem d_SL_link_54 : decode prog_1_method_11_code 54 = .ok (.bipush (-2), 2) := by decide +kernel
theorem d_SL_link_56 : decode prog_1_method_11_code 56 = .ok (.ireturn, 1) := by decide +kernel
theorem d_SL_link_57 : decode prog_1_method_11_code 57 = .ok (.aload_n 0, 1) := by decide +kernel
theorem d_SL_link_58 : decode prog_1_method_11_code 58 = .ok (.getfield 34, 3) := by decide +kernel
theorem d_SL_link_61 : decode prog_1_method_11_code 61 = .ok (.invokevirtual 124, 3) := by decide +kernel
theorem d_SL_link_64 : decode prog_1_method_11_code 64 = .ok (.ifCond .eq 6, 3) := by decide +kernel
theorem d_SL_link_67 : decode prog_1_method_11_code 67 = .ok (.bipush (-3), 2) := by decide +kernel
theorem d_SL_link_69 : decode prog_1_method_11_code 69 = .ok (.ireturn, 1) := by decide +kernel
theorem d_SL_link_70 : decode prog_1_method_11_code 70 = .ok (.aload_n 0, 1) := by decide +kernel
theorem d_SL_link_71 : decode prog_1_method_11_code 71 = .ok (.getfield 43, 3) := by decide +kernel
theorem d_SL_link_74 : decode prog_1_method_11_code 74 = .ok (.iload_n 1, 1) := by decide +kernel
theorem d_SL_link_75 : decode prog_1_method_11_code 75 = .ok (.invokevirtual 127, 3) := by decide +kernel
theorem d_SL_link_78 : decode prog_1_method_11_code 78 = .ok (.ifCond .eq 7, 3) := by decide +kernel
theorem d_SL_link_81 : decode prog_1_method_11_code 81 = .ok (.iconst 0, 1) := by decide +kernel
theorem d_SL_link_82 : decode prog_1_method_11_code 82 = .ok (.goto 5, 3) := by decide +kernel
theorem d_SL_link_85 : decode prog_1_method_11_code 85 = .ok (.bipush (-4), 2) := by decide +kernel
theorem d_SL_link_87 : decode prog_1_method_11_code 87 = .ok (.ireturn, 1) := by decide +kernel
theorem d_SL_included_0 : decode prog_1_method_12_code 0 = .ok (.aload_n 0, 1) := by decide +kernel
theorem d_SL_included_1 : decode prog_1_method_12_code 1 = .ok (.getfield 34, 3) := by decide +kernel
theorem d_SL_included_4 : decode prog_1_method_12_code 4 = .ok (.iload_n 1, 1) := by decide +kernel
theorem d_SL_included_5 : decode prog_1_method_12_code 5 = .ok (.invokevirtual 130, 3) := by decide +kernel
theorem d_SL_included_8 : decode prog_1_method_12_code 8 = .ok (.ireturn, 1) := by decide +kernel
theorem d_SL_missing_0 : decode prog_1_method_13_code 0 = .ok (.aload_n 0, 1) := by decide +kernel
theorem d_SL_missing_1 : decode prog_1_method_13_code 1 = .ok (.getfield 34, 3) := by decide +kernel
theorem d_SL_missing_4 : decode prog_1_method_13_code 4 = .ok (.invokevirtual 124, 3) := by decide +kernel
theorem d_SL_missing_7 : decode prog_1_method_13_code 7 = .ok (.ireturn, 1) := by decide +kernel
theorem d_SL_size_0 : decode prog_1_method_14_code 0 = .ok (.aload_n 0, 1) := by decide +kernel
theorem d_SL_size_1 : decode prog_1_method_14_code 1 = .ok (.getfield 43, 3) := by decide +kernel
theorem d_SL_size_4 : decode prog_1_method_14_code 4 = .ok (.iload_n 1, 1) := by decide +kernel
theorem d_SL_size_5 : decode prog_1_method_14_code 5 = .ok (.invokevirtual 133, 3) := by decide +kernel
theorem d_SL_size_8 : decode prog_1_method_14_code 8 = .ok (.ireturn, 1) := by decide +kernel
theorem d_SL_word_0 : decode prog_1_method_15_code 0 = .ok (.aload_n 0, 1) := by decide +kernel
theorem d_SL_word_1 : decode prog_1_method_15_code 1 = .ok (.getfield 43, 3) := by decide +kernel
theorem d_SL_word_4 : decode prog_1_method_15_code 4 = .ok (.iload_n 1, 1) := by decide +kernel
theorem d_SL_word_5 : decode prog_1_method_15_code 5 = .ok (.invokevirtual 134, 3) := by decide +kernel
theorem d_SL_word_8 : decode prog_1_method_15_code 8 = .ok (.ireturn, 1) := by decide +kernel
theorem d_SL_symbol_0 : decode prog_1_method_16_code 0 = .ok (.aload_n 0, 1) := by decide +kernel
theorem d_SL_symbol_1 : decode prog_1_method_16_code 1 = .ok (.getfield 43, 3) := by decide +kernel
theorem d_SL_symbol_4 : decode prog_1_method_16_code 4 = .ok (.iload_n 1, 1) := by decide +kernel
theorem d_SL_symbol_5 : decode prog_1_method_16_code 5 = .ok (.invokevirtual 137, 3) := by decide +kernel
theorem d_SL_symbol_8 : decode prog_1_method_16_code 8 = .ok (.ireturn, 1) := by decide +kernel
theorem d_SL_strip_0 : decode prog_1_method_17_code 0 = .ok (.aload_n 0, 1) := by decide +kernel
theorem d_SL_strip_1 : decode prog_1_method_17_code 1 = .ok (.getfield 43, 3) := by decide +kernel
theorem d_SL_strip_4 : decode prog_1_method_17_code 4 = .ok (.invokevirtual 140, 3) := by decide +kernel
theorem d_SL_strip_7 : decode prog_1_method_17_code 7 = .ok (.ireturn, 1) := by decide +kernel
theorem d_SL_start_0 : decode prog_1_method_18_code 0 = .ok (.aload_n 0, 1) := by decide +kernel
theorem d_SL_start_1 : decode prog_1_method_18_code 1 = .ok (.getfield 43, 3) := by decide +kernel
theorem d_SL_start_4 : decode prog_1_method_18_code 4 = .ok (.invokevirtual 143, 3) := by decide +kernel
theorem d_SL_start_7 : decode prog_1_method_18_code 7 = .ok (.ifCond .ne 5, 3) := by decide +kernel
theorem d_SL_start_10 : decode prog_1_method_18_code 10 = .ok (.iconst 0, 1) := by decide +kernel
theorem d_SL_start_11 : decode prog_1_method_18_code 11 = .ok (.ireturn, 1) := by decide +kernel
theorem d_SL_start_12 : decode prog_1_method_18_code 12 = .ok (.aload_n 0, 1) := by decide +kernel
theorem d_SL_start_13 : decode prog_1_method_18_code 13 = .ok (.getfield 50, 3) := by decide +kernel
theorem d_SL_start_16 : decode prog_1_method_18_code 16 = .ok (.aload_n 0, 1) := by decide +kernel
theorem d_SL_start_17 : decode prog_1_method_18_code 17 = .ok (.getfield 43, 3) := by decide +kernel
theorem d_SL_start_20 : decode prog_1_method_18_code 20 = .ok (.invokevirtual 146, 3) := by decide +kernel
theorem d_SL_start_23 : decode prog_1_method_18_code 23 = .ok (.iconst 1, 1) := by decide +kernel
theorem d_SL_start_24 : decode prog_1_method_18_code 24 = .ok (.ireturn, 1) := by decide +kernel
theorem d_SL_feed_0 : decode prog_1_method_19_code 0 = .ok (.aload_n 0, 1) := by decide +kernel
theorem d_SL_feed_1 : decode prog_1_method_19_code 1 = .ok (.getfield 50, 3) := by decide +kernel
theorem d_SL_feed_4 : decode prog_1_method_19_code 4 = .ok (.iload_n 1, 1) := by decide +kernel
theorem d_SL_feed_5 : decode prog_1_method_19_code 5 = .ok (.invokevirtual 150, 3) := by decide +kernel
theorem d_SL_feed_8 : decode prog_1_method_19_code 8 = .ok (.ireturn, 1) := by decide +kernel
theorem d_SL_run_0 : decode prog_1_method_20_code 0 = .ok (.aload_n 0, 1) := by decide +kernel
theorem d_SL_run_1 : decode prog_1_method_20_code 1 = .ok (.getfield 50, 3) := by decide +kernel
theorem d_SL_run_4 : decode prog_1_method_20_code 4 = .ok (.invokevirtual 153, 3) := by decide +kernel
theorem d_SL_run_7 : decode prog_1_method_20_code 7 = .ok (.ifCond .eq 14, 3) := by decide +kernel
theorem d_SL_run_10 : decode prog_1_method_20_code 10 = .ok (.iload_n 1, 1) := by decide +kernel
theorem d_SL_run_11 : decode prog_1_method_20_code 11 = .ok (.iconst 0, 1) := by decide +kernel
theorem d_SL_run_12 : decode prog_1_method_20_code 12 = .ok (.sipush 1000, 3) := by decide +kernel
theorem d_SL_run_15 : decode prog_1_method_20_code 15 = .ok (.invokestatic 154, 3) := by decide +kernel
theorem d_SL_run_18 : decode prog_1_method_20_code 18 = .ok (.ifCond .ne 5, 3) := by decide +kernel
theorem d_SL_run_21 : decode prog_1_method_20_code 21 = .ok (.iconst (-1), 1) := by decide +kernel
theorem d_SL_run_22 : decode prog_1_method_20_code 22 = .ok (.ireturn, 1) := by decide +kernel
theorem d_SL_run_23 : decode prog_1_method_20_code 23 = .ok (.aload_n 0, 1) := by decide +kernel
theorem d_SL_run_24 : decode prog_1_method_20_code 24 = .ok (.getfield 50, 3) := by decide +kernel
theorem d_SL_run_27 : decode prog_1_method_20_code 27 = .ok (.iload_n 1, 1) := by decide +kernel
theorem d_SL_run_28 : decode prog_1_method_20_code 28 = .ok (.invokevirtual 157, 3) := by decide +kernel
theorem d_SL_run_31 : decode prog_1_method_20_code 31 = .ok (.ireturn, 1) := by decide +kernel
theorem d_SL_register_0 : decode prog_1_method_21_code 0 = .ok (.aload_n 0, 1) := by decide +kernel
theorem d_SL_register_1 : decode prog_1_method_21_code 1 = .ok (.getfield 50, 3) := by decide +kernel
theorem d_SL_register_4 : decode prog_1_method_21_code 4 = .ok (.invokevirtual 153, 3) := by decide +kernel
theorem d_SL_register_7 : decode prog_1_method_21_code 7 = .ok (.ifCond .eq 14, 3) := by decide +kernel
theorem d_SL_register_10 : decode prog_1_method_21_code 10 = .ok (.aload_n 0, 1) := by decide +kernel
theorem d_SL_register_11 : decode prog_1_method_21_code 11 = .ok (.getfield 50, 3) := by decide +kernel
theorem d_SL_register_14 : decode prog_1_method_21_code 14 = .ok (.iload_n 1, 1) := by decide +kernel
theorem d_SL_register_15 : decode prog_1_method_21_code 15 = .ok (.invokevirtual 160, 3) := by decide +kernel
theorem d_SL_register_18 : decode prog_1_method_21_code 18 = .ok (.goto 4, 3) := by decide +kernel
theorem d_SL_register_21 : decode prog_1_method_21_code 21 = .ok (.iconst (-1), 1) := by decide +kernel
theorem d_SL_register_22 : decode prog_1_method_21_code 22 = .ok (.ireturn, 1) := by decide +kernel
theorem d_SL_memory_0 : decode prog_1_method_22_code 0 = .ok (.aload_n 0, 1) := by decide +kernel
theorem d_SL_memory_1 : decode prog_1_method_22_code 1 = .ok (.getfield 50, 3) := by decide +kernel
theorem d_SL_memory_4 : decode prog_1_method_22_code 4 = .ok (.iload_n 1, 1) := by decide +kernel
theorem d_SL_memory_5 : decode prog_1_method_22_code 5 = .ok (.invokevirtual 163, 3) := by decide +kernel
theorem d_SL_memory_8 : decode prog_1_method_22_code 8 = .ok (.ireturn, 1) := by decide +kernel
theorem d_SL_emptyModules_0 : decode prog_1_method_23_code 0 = .ok (.bipush 6, 2) := by decide +kernel
theorem d_SL_emptyModules_2 : decode prog_1_method_23_code 2 = .ok (.anewarray 59, 3) := by decide +kernel
theorem d_SL_emptyModules_5 : decode prog_1_method_23_code 5 = .ok (.astore_n 0, 1) := by decide +kernel
theorem d_SL_emptyModules_6 : decode prog_1_method_23_code 6 = .ok (.iconst 0, 1) := by decide +kernel
theorem d_SL_emptyModules_7 : decode prog_1_method_23_code 7 = .ok (.istore_n 1, 1) := by decide +kernel
theorem d_SL_emptyModules_8 : decode prog_1_method_23_code 8 = .ok (.iload_n 1, 1) := by decide +kernel
theorem d_SL_emptyModules_9 : decode prog_1_method_23_code 9 = .ok (.bipush 6, 2) := by decide +kernel
theorem d_SL_emptyModules_11 : decode prog_1_method_23_code 11 = .ok (.if_icmp .ge 19, 3) := by decide +kernel
theorem d_SL_emptyModules_14 : decode prog_1_method_23_code 14 = .ok (.aload_n 0, 1) := by decide +kernel
theorem d_SL_emptyModules_15 : decode prog_1_method_23_code 15 = .ok (.iload_n 1, 1) := by decide +kernel
theorem d_SL_emptyModules_16 : decode prog_1_method_23_code 16 = .ok (.new 59, 3) := by decide +kernel
theorem d_SL_emptyModules_19 : decode prog_1_method_23_code 19 = .ok (.dup, 1) := by decide +kernel
theorem d_SL_emptyModules_20 : decode prog_1_method_23_code 20 = .ok (.invokespecial 164, 3) := by decide +kernel
theorem d_SL_emptyModules_23 : decode prog_1_method_23_code 23 = .ok (.aastore, 1) := by decide +kernel
theorem d_SL_emptyModules_24 : decode prog_1_method_23_code 24 = .ok (.iinc 1 1, 3) := by decide +kernel
theorem d_SL_emptyModules_27 : decode prog_1_method_23_code 27 = .ok (.goto (-19), 3) := by decide +kernel
theorem d_SL_emptyModules_30 : decode prog_1_method_23_code 30 = .ok (.aload_n 0, 1) := by decide +kernel
theorem d_SL_emptyModules_31 : decode prog_1_method_23_code 31 = .ok (.areturn, 1) := by decide +kernel
theorem d_SL_mayStandBefore_0 : decode prog_1_method_24_code 0 = .ok (.iload_n 2, 1) := by decide +kernel
theorem d_SL_mayStandBefore_1 : decode prog_1_method_24_code 1 = .ok (.iconst (-1), 1) := by decide +kernel
theorem d_SL_mayStandBefore_2 : decode prog_1_method_24_code 2 = .ok (.if_icmp .eq 19, 3) := by decide +kernel
theorem d_SL_mayStandBefore_5 : decode prog_1_method_24_code 5 = .ok (.iload_n 2, 1) := by decide +kernel
theorem d_SL_mayStandBefore_6 : decode prog_1_method_24_code 6 = .ok (.iload_n 1, 1) := by decide +kernel
theorem d_SL_mayStandBefore_7 : decode prog_1_method_24_code 7 = .ok (.if_icmp .eq 18, 3) := by decide +kernel
theorem d_SL_mayStandBefore_10 : decode prog_1_method_24_code 10 = .ok (.aload_n 0, 1) := by decide +kernel
theorem d_SL_mayStandBefore_11 : decode prog_1_method_24_code 11 = .ok (.getfield 27, 3) := by decide +kernel
theorem d_SL_mayStandBefore_14 : decode prog_1_method_24_code 14 = .ok (.iload_n 2, 1) := by decide +kernel
theorem d_SL_mayStandBefore_15 : decode prog_1_method_24_code 15 = .ok (.invokevirtual 82, 3) := by decide +kernel
theorem d_SL_mayStandBefore_18 : decode prog_1_method_24_code 18 = .ok (.ifCond .eq 7, 3) := by decide +kernel
theorem d_SL_mayStandBefore_21 : decode prog_1_method_24_code 21 = .ok (.iconst 1, 1) := by decide +kernel
theorem d_SL_mayStandBefore_22 : decode prog_1_method_24_code 22 = .ok (.goto 4, 3) := by decide +kernel
theorem d_SL_mayStandBefore_25 : decode prog_1_method_24_code 25 = .ok (.iconst 0, 1) := by decide +kernel
theorem d_SL_mayStandBefore_26 : decode prog_1_method_24_code 26 = .ok (.ireturn, 1) := by decide +kernel
theorem d_SL_isFreeModule_0 : decode prog_1_method_25_code 0 = .ok (.iload_n 1, 1) := by decide +kernel
theorem d_SL_isFreeModule_1 : decode prog_1_method_25_code 1 = .ok (.invokestatic 54, 3) := by decide +kernel
theorem d_SL_isFreeModule_4 : decode prog_1_method_25_code 4 = .ok (.ifCond .eq 29, 3) := by decide +kernel
theorem d_SL_isFreeModule_7 : decode prog_1_method_25_code 7 = .ok (.aload_n 0, 1) := by decide +kernel
theorem d_SL_isFreeModule_8 : decode prog_1_method_25_code 8 = .ok (.getfield 31, 3) := by decide +kernel
theorem d_SL_isFreeModule_11 : decode prog_1_method_25_code 11 = .ok (.iload_n 1, 1) := by decide +kernel
theorem d_SL_isFreeModule_12 : decode prog_1_method_25_code 12 = .ok (.invokevirtual 82, 3) := by decide +kernel
theorem d_SL_isFreeModule_15 : decode prog_1_method_25_code 15 = .ok (.ifCond .ne 18, 3) := by decide +kernel
theorem d_SL_isFreeModule_18 : decode prog_1_method_25_code 18 = .ok (.aload_n 0, 1) := by decide +kernel
theorem d_SL_isFreeModule_19 : decode prog_1_method_25_code 19 = .ok (.getfield 27, 3) := by decide +kernel
theorem d_SL_isFreeModule_22 : decode prog_1_method_25_code 22 = .ok (.iload_n 1, 1) := by decide +kernel
theorem d_SL_isFreeModule_23 : decode prog_1_method_25_code 23 = .ok (.invokevirtual 82, 3) := by decide +kernel
theorem d_SL_isFreeModule_26 : decode prog_1_method_25_code 26 = .ok (.ifCond .ne 7, 3) := by decide +kernel
theorem d_SL_isFreeModule_29 : decode prog_1_method_25_code 29 = .ok (.iconst 1, 1) := by decide +kernel
theorem d_SL_isFreeModule_30 : decode prog_1_method_25_code 30 = .ok (.goto 4, 3) := by decide +kernel
theorem d_SL_isFreeModule_33 : decode prog_1_method_25_code 33 = .ok (.iconst 0, 1) := by decide +kernel
theorem d_SL_isFreeModule_34 : decode prog_1_method_25_code 34 = .ok (.ireturn, 1) := by decide +kernel
theorem d_SL_isWithin_0 : decode prog_1_method_26_code 0 = .ok (.iload_n 0, 1) := by decide +kernel
theorem d_SL_isWithin_1 : decode prog_1_method_26_code 1 = .ok (.iload_n 1, 1) := by decide +kernel
theorem d_SL_isWithin_2 : decode prog_1_method_26_code 2 = .ok (.if_icmp .lt 12, 3) := by decide +kernel
theorem d_SL_isWithin_5 : decode prog_1_method_26_code 5 = .ok (.iload_n 0, 1) := by decide +kernel
theorem d_SL_isWithin_6 : decode prog_1_method_26_code 6 = .ok (.iload_n 2, 1) := by decide +kernel
theorem d_SL_isWithin_7 : decode prog_1_method_26_code 7 = .ok (.if_icmp .gt 7, 3) := by decide +kernel
theorem d_SL_isWithin_10 : decode prog_1_method_26_code 10 = .ok (.iconst 1, 1) := by decide +kernel
theorem d_SL_isWithin_11 : decode prog_1_method_26_code 11 = .ok (.goto 4, 3) := by decide +kernel
theorem d_SL_isWithin_14 : decode prog_1_method_26_code 14 = .ok (.iconst 0, 1) := by decide +kernel
theorem d_SL_isWithin_15 : decode prog_1_method_26_code 15 = .ok (.ireturn, 1) := by decide +kernel
theorem d_SL_isModule_0 : decode prog_1_method_27_code 0 = .ok (.iload_n 0, 1) := by decide +kernel
theorem d_SL_isModule_1 : decode prog_1_method_27_code 1 = .ok (.iconst 0, 1) := by decide +kernel
theorem d_SL_isModule_2 : decode prog_1_method_27_code 2 = .ok (.iconst 5, 1) := by decide +kernel
theorem d_SL_isModule_3 : decode prog_1_method_27_code 3 = .ok (.invokestatic 154, 3) := by decide +kernel
theorem d_SL_isModule_6 : decode prog_1_method_27_code 6 = .ok (.ireturn, 1) := by decide +kernel
theorem d_SL_isSection_0 : decode prog_1_method_28_code 0 = .ok (.iload_n 0, 1) := by decide +kernel
theorem d_SL_isSection_1 : decode prog_1_method_28_code 1 = .ok (.iconst 0, 1) := by decide +kernel
theorem d_SL_isSection_2 : decode prog_1_method_28_code 2 = .ok (.iconst 2, 1) := by decide +kernel
theorem d_SL_isSection_3 : decode prog_1_method_28_code 3 = .ok (.invokestatic 154, 3) := by decide +kernel
theorem d_SL_isSection_6 : decode prog_1_method_28_code 6 = .ok (.ireturn, 1) := by decide +kernel
theorem d_SL_isName_0 : decode prog_1_method_29_code 0 = .ok (.iload_n 0, 1) := by decide +kernel
theorem d_SL_isName_1 : decode prog_1_method_29_code 1 = .ok (.iconst 0, 1) := by decide +kernel
theorem d_SL_isName_2 : decode prog_1_method_29_code 2 = .ok (.bipush 15, 2) := by decide +kernel
theorem d_SL_isName_4 : decode prog_1_method_29_code 4 = .ok (.invokestatic 154, 3) := by decide +kernel
theorem d_SL_isName_7 : decode prog_1_method_29_code 7 = .ok (.ireturn, 1) := by decide +kernel
theorem d_SL_isWord_0 : decode prog_1_method_30_code 0 = .ok (.iload_n 0, 1) := by decide +kernel
theorem d_SL_isWord_1 : decode prog_1_method_30_code 1 = .ok (.iconst 0, 1) := by decide +kernel
theorem d_SL_isWord_2 : decode prog_1_method_30_code 2 = .ok (.ldc 165, 2) := by decide +kernel
theorem d_SL_isWord_4 : decode prog_1_method_30_code 4 = .ok (.invokestatic 154, 3) := by decide +kernel
theorem d_SL_isWord_7 : decode prog_1_method_30_code 7 = .ok (.ireturn, 1) := by decide +kernel
theorem d_SL_toWord_0 : decode prog_1_method_31_code 0 = .ok (.iload_n 0, 1) := by decide +kernel
theorem d_SL_toWord_1 : decode prog_1_method_31_code 1 = .ok (.ldc 165, 2) := by decide +kernel
theorem d_SL_toWord_3 : decode prog_1_method_31_code 3 = .ok (.iand, 1) := by decide +kernel
theorem d_SL_toWord_4 : decode prog_1_method_31_code 4 = .ok (.ireturn, 1) := by decide +kernel
theorem d_SL_setOf_0 : decode prog_1_method_32_code 0 = .ok (.iconst 1, 1) := by decide +kernel
theorem d_SL_setOf_1 : decode prog_1_method_32_code 1 = .ok (.iload_n 0, 1) := by decide +kernel
theorem d_SL_setOf_2 : decode prog_1_method_32_code 2 = .ok (.ishl, 1) := by decide +kernel
theorem d_SL_setOf_3 : decode prog_1_method_32_code 3 = .ok (.ireturn, 1) := by decide +kernel
theorem d_SL_hasName_0 : decode prog_1_method_33_code 0 = .ok (.iload_n 0, 1) := by decide +kernel
theorem d_SL_hasName_1 : decode prog_1_method_33_code 1 = .ok (.iload_n 1, 1) := by decide +kernel
theorem d_SL_hasName_2 : decode prog_1_method_33_code 2 = .ok (.ishr, 1) := by decide +kernel
theorem d_SL_hasName_3 : decode prog_1_method_33_code 3 = .ok (.iconst 1, 1) := by decide +kernel
theorem d_SL_hasName_4 : decode prog_1_method_33_code 4 = .ok (.iand, 1) := by decide +kernel
theorem d_SL_hasName_5 : decode prog_1_method_33_code 5 = .ok (.ifCond .eq 7, 3) := by decide +kernel
theorem d_SL_hasName_8 : decode prog_1_method_33_code 8 = .ok (.iconst 1, 1) := by decide +kernel
theorem d_SL_hasName_9 : decode prog_1_method_33_code 9 = .ok (.goto 4, 3) := by decide +kernel
theorem d_SL_hasName_12 : decode prog_1_method_33_code 12 = .ok (.iconst 0, 1) := by decide +kernel
theorem d_SL_hasName_13 : decode prog_1_method_33_code 13 = .ok (.ireturn, 1) := by decide +kernel
theorem d_Ref_init_0 : decode prog_8_method_1_code 0 = .ok (.aload_n 0, 1) := by decide +kernel
theorem d_Ref_init_1 : decode prog_8_method_1_code 1 = .ok (.invokespecial 1, 3) := by decide +kernel
theorem d_Ref_init_4 : decode prog_8_method_1_code 4 = .ok (.aload_n 0, 1) := by decide +kernel
theorem d_Ref_init_5 : decode prog_8_method_1_code 5 = .ok (.bipush 6, 2) := by decide +kernel
theorem d_Ref_init_7 : decode prog_8_method_1_code 7 = .ok (.newarray .int, 2) := by decide +kernel
theorem d_Ref_init_9 : decode prog_8_method_1_code 9 = .ok (.putfield 7, 3) := by decide +kernel
theorem d_Ref_init_12 : decode prog_8_method_1_code 12 = .ok (.aload_n 0, 1) := by decide +kernel
theorem d_Ref_init_13 : decode prog_8_method_1_code 13 = .ok (.bipush 120, 2) := by decide +kernel
theorem d_Ref_init_15 : decode prog_8_method_1_code 15 = .ok (.newarray .int, 2) := by decide +kernel
theorem d_Ref_init_17 : decode prog_8_method_1_code 17 = .ok (.putfield 13, 3) := by decide +kernel
theorem d_Ref_init_20 : decode prog_8_method_1_code 20 = .ok (.aload_n 0, 1) := by decide +kernel
theorem d_Ref_init_21 : decode prog_8_method_1_code 21 = .ok (.bipush 120, 2) := by decide +kernel
theorem d_Ref_init_23 : decode prog_8_method_1_code 23 = .ok (.newarray .int, 2) := by decide +kernel
theorem d_Ref_init_25 : decode prog_8_method_1_code 25 = .ok (.putfield 16, 3) := by decide +kernel
theorem d_Ref_init_28 : decode prog_8_method_1_code 28 = .ok (.aload_n 0, 1) := by decide +kernel
theorem d_Ref_init_29 : decode prog_8_method_1_code 29 = .ok (.bipush 120, 2) := by decide +kernel
theorem d_Ref_init_31 : decode prog_8_method_1_code 31 = .ok (.newarray .int, 2) := by decide +kernel
theorem d_Ref_init_33 : decode prog_8_method_1_code 33 = .ok (.putfield 19, 3) := by decide +kernel
theorem d_Ref_init_36 : decode prog_8_method_1_code 36 = .ok (.aload_n 0, 1) := by decide +kernel
theorem d_Ref_init_37 : decode prog_8_method_1_code 37 = .ok (.bipush 120, 2) := by decide +kernel
theorem d_Ref_init_39 : decode prog_8_method_1_code 39 = .ok (.newarray .int, 2) := by decide +kernel
theorem d_Ref_init_41 : decode prog_8_method_1_code 41 = .ok (.putfield 22, 3) := by decide +kernel
theorem d_Ref_init_44 : decode prog_8_method_1_code 44 = .ok (.aload_n 0, 1) := by decide +kernel
theorem d_Ref_init_45 : decode prog_8_method_1_code 45 = .ok (.bipush 120, 2) := by decide +kernel
theorem d_Ref_init_47 : decode prog_8_method_1_code 47 = .ok (.newarray .boolean, 2) := by decide +kernel
theorem d_Ref_init_49 : decode prog_8_method_1_code 49 = .ok (.putfield 25, 3) := by decide +kernel
theorem d_Ref_init_52 : decode prog_8_method_1_code 52 = .ok (.aload_n 0, 1) := by decide +kernel
theorem d_Ref_init_53 : decode prog_8_method_1_code 53 = .ok (.bipush 6, 2) := by decide +kernel
theorem d_Ref_init_55 : decode prog_8_method_1_code 55 = .ok (.newarray .int, 2) := by decide +kernel
theorem d_Ref_init_57 : decode prog_8_method_1_code 57 = .ok (.putfield 29, 3) := by decide +kernel
theorem d_Ref_init_60 : decode prog_8_method_1_code 60 = .ok (.aload_n 0, 1) := by decide +kernel
theorem d_Ref_init_61 : decode prog_8_method_1_code 61 = .ok (.bipush 8, 2) := by decide +kernel
theorem d_Ref_init_63 : decode prog_8_method_1_code 63 = .ok (.newarray .int, 2) := by decide +kernel
theorem d_Ref_init_65 : decode prog_8_method_1_code 65 = .ok (.putfield 32, 3) := by decide +kernel
theorem d_Ref_init_68 : decode prog_8_method_1_code 68 = .ok (.aload_n 0, 1) := by decide +kernel
theorem d_Ref_init_69 : decode prog_8_method_1_code 69 = .ok (.iconst (-1), 1) := by decide +kernel
theorem d_Ref_init_70 : decode prog_8_method_1_code 70 = .ok (.putfield 35, 3) := by decide +kernel
theorem d_Ref_init_73 : decode prog_8_method_1_code 73 = .ok (.aload_n 0, 1) := by decide +kernel
theorem d_Ref_init_74 : decode prog_8_method_1_code 74 = .ok (.bipush 6, 2) := by decide +kernel
theorem d_Ref_init_76 : decode prog_8_method_1_code 76 = .ok (.newarray .int, 2) := by decide +kernel
theorem d_Ref_init_78 : decode prog_8_method_1_code 78 = .ok (.putfield 39, 3) := by decide +kernel
theorem d_Ref_init_81 : decode prog_8_method_1_code 81 = .ok (.aload_n 0, 1) := by decide +kernel
theorem d_Ref_init_82 : decode prog_8_method_1_code 82 = .ok (.sipush 200, 3) := by decide +kernel
theorem d_Ref_init_85 : decode prog_8_method_1_code 85 = .ok (.newarray .int, 2) := by decide +kernel
theorem d_Ref_init_87 : decode prog_8_method_1_code 87 = .ok (.putfield 42, 3) := by decide +kernel
theorem d_Ref_init_90 : decode prog_8_method_1_code 90 = .ok (.aload_n 0, 1) := by decide +kernel
theorem d_Ref_init_91 : decode prog_8_method_1_code 91 = .ok (.iconst 3, 1) := by decide +kernel
theorem d_Ref_init_92 : decode prog_8_method_1_code 92 = .ok (.newarray .int, 2) := by decide +kernel
theorem d_Ref_init_94 : decode prog_8_method_1_code 94 = .ok (.putfield 45, 3) := by decide +kernel
theorem d_Ref_init_97 : decode prog_8_method_1_code 97 = .ok (.aload_n 0, 1) := by decide +kernel
theorem d_Ref_init_98 : decode prog_8_method_1_code 98 = .ok (.bipush 16, 2) := by decide +kernel
theorem d_Ref_init_100 : decode prog_8_method_1_code 100 = .ok (.newarray .int, 2) := by decide +kernel
theorem d_Ref_init_102 : decode prog_8_method_1_code 102 = .ok (.putfield 48, 3) := by decide +kernel
theorem d_Ref_init_105 : decode prog_8_method_1_code 105 = .ok (.aload_n 0, 1) := by decide +kernel
theorem d_Ref_init_106 : decode prog_8_method_1_code 106 = .ok (.sipush 200, 3) := by decide +kernel
theorem d_Ref_init_109 : decode prog_8_method_1_code 109 = .ok (.newarray .int, 2) := by decide +kernel
theorem d_Ref_init_111 : decode prog_8_method_1_code 111 = .ok (.putfield 51, 3) := by decide +kernel
theorem d_Ref_init_114 : decode prog_8_method_1_code 114 = .ok (.aload_n 0, 1) := by decide +kernel
theorem d_Ref_init_115 : decode prog_8_method_1_code 115 = .ok (.iconst 4, 1) := by decide +kernel
theorem d_Ref_init_116 : decode prog_8_method_1_code 116 = .ok (.newarray .int, 2) := by decide +kernel
theorem d_Ref_init_118 : decode prog_8_method_1_code 118 = .ok (.putfield 54, 3) := by decide +kernel
theorem d_Ref_init_121 : decode prog_8_method_1_code 121 = .ok (.aload_n 0, 1) := by decide +kernel
theorem d_Ref_init_122 : decode prog_8_method_1_code 122 = .ok (.bipush 8, 2) := by decide +kernel
theorem d_Ref_init_124 : decode prog_8_method_1_code 124 = .ok (.newarray .int, 2) := by decide +kernel
theorem d_Ref_init_126 : decode prog_8_method_1_code 126 = .ok (.putfield 57, 3) := by decide +kernel
theorem d_Ref_init_129 : decode prog_8_method_1_code 129 = .ok (.return_, 1) := by decide +kernel
theorem d_Ref_module_0 : decode prog_8_method_2_code 0 = .ok (.iload_n 1, 1) := by decide +kernel
theorem d_Ref_module_1 : decode prog_8_method_2_code 1 = .ok (.ifCond .lt 12, 3) := by decide +kernel
theorem d_Ref_module_4 : decode prog_8_method_2_code 4 = .ok (.iload_n 1, 1) := by decide +kernel
theorem d_Ref_module_5 : decode prog_8_method_2_code 5 = .ok (.iconst 5, 1) := by decide +kernel
theorem d_Ref_module_6 : decode prog_8_method_2_code 6 = .ok (.if_icmp .gt 7, 3) := by decide +kernel
theorem d_Ref_module_9 : decode prog_8_method_2_code 9 = .ok (.iconst 1, 1) := by decide +kernel
theorem d_Ref_module_10 : decode prog_8_method_2_code 10 = .ok (.goto 4, 3) := by decide +kernel
theorem d_Ref_module_13 : decode prog_8_method_2_code 13 = .ok (.iconst 0, 1) := by decide +kernel
theorem d_Ref_module_14 : decode prog_8_method_2_code 14 = .ok (.ireturn, 1) := by decide +kernel
theorem d_Ref_name_0 : decode prog_8_method_3_code 0 = .ok (.iload_n 1, 1) := by decide +kernel
theorem d_Ref_name_1 : decode prog_8_method_3_code 1 = .ok (.ifCond .lt 13, 3) := by decide +kernel
theorem d_Ref_name_4 : decode prog_8_method_3_code 4 = .ok (.iload_n 1, 1) := by decide +kernel
theorem d_Ref_name_5 : decode prog_8_method_3_code 5 = .ok (.bipush 15, 2) := by decide +kernel
theorem d_Ref_name_7 : decode prog_8_method_3_code 7 = .ok (.if_icmp .gt 7, 3) := by decide +kernel
theorem d_Ref_name_10 : decode prog_8_method_3_code 10 = .ok (.iconst 1, 1) := by decide +kernel
theorem d_Ref_name_11 : decode prog_8_method_3_code 11 = .ok (.goto 4, 3) := by decide +kernel
theorem d_Ref_name_14 : decode prog_8_method_3_code 14 = .ok (.iconst 0, 1) := by decide +kernel
theorem d_Ref_name_15 : decode prog_8_method_3_code 15 = .ok (.ireturn, 1) := by decide +kernel
theorem d_Ref_isWord_0 : decode prog_8_method_4_code 0 = .ok (.iload_n 1, 1) := by decide +kernel
theorem d_Ref_isWord_1 : decode prog_8_method_4_code 1 = .ok (.ifCond .lt 13, 3) := by decide +kernel
theorem d_Ref_isWord_4 : decode prog_8_method_4_code 4 = .ok (.iload_n 1, 1) := by decide +kernel
theorem d_Ref_isWord_5 : decode prog_8_method_4_code 5 = .ok (.ldc 60, 2) := by decide +kernel
theorem d_Ref_isWord_7 : decode prog_8_method_4_code 7 = .ok (.if_icmp .gt 7, 3) := by decide +kernel
theorem d_Ref_isWord_10 : decode prog_8_method_4_code 10 = .ok (.iconst 1, 1) := by decide +kernel
theorem d_Ref_isWord_11 : decode prog_8_method_4_code 11 = .ok (.goto 4, 3) := by decide +kernel
theorem d_Ref_isWord_14 : decode prog_8_method_4_code 14 = .ok (.iconst 0, 1) := by decide +kernel
theorem d_Ref_isWord_15 : decode prog_8_method_4_code 15 = .ok (.ireturn, 1) := by decide +kernel
theorem d_Ref_width_0 : decode prog_8_method_5_code 0 = .ok (.aload_n 0, 1) := by decide +kernel
theorem d_Ref_width_1 : decode prog_8_method_5_code 1 = .ok (.getfield 13, 3) := by decide +kernel
theorem d_Ref_width_4 : decode prog_8_method_5_code 4 = .ok (.iload_n 1, 1) := by decide +kernel
theorem d_Ref_width_5 : decode prog_8_method_5_code 5 = .ok (.iaload, 1) := by decide +kernel
theorem d_Ref_width_6 : decode prog_8_method_5_code 6 = .ok (.iconst 3, 1) := by decide +kernel
theorem d_Ref_width_7 : decode prog_8_method_5_code 7 = .ok (.if_icmp .eq 13, 3) := by decide +kernel
theorem d_Ref_width_10 : decode prog_8_method_5_code 10 = .ok (.aload_n 0, 1) := by decide +kernel
theorem d_Ref_width_11 : decode prog_8_method_5_code 11 = .ok (.getfield 13, 3) := by decide +kernel
theorem d_Ref_width_14 : decode prog_8_method_5_code 14 = .ok (.iload_n 1, 1) := by decide +kernel
theorem d_Ref_width_15 : decode prog_8_method_5_code 15 = .ok (.iaload, 1) := by decide +kernel
theorem d_Ref_width_16 : decode prog_8_method_5_code 16 = .ok (.iconst 4, 1) := by decide +kernel
theorem d_Ref_width_17 : decode prog_8_method_5_code 17 = .ok (.if_icmp .ne 5, 3) := by decide +kernel
theorem d_Ref_width_20 : decode prog_8_method_5_code 20 = .ok (.iconst 1, 1) := by decide +kernel
theorem d_Ref_width_21 : decode prog_8_method_5_code 21 = .ok (.ireturn, 1) := by decide +kernel
theorem d_Ref_width_22 : decode prog_8_method_5_code 22 = .ok (.aload_n 0, 1) := by decide +kernel
theorem d_Ref_width_23 : decode prog_8_method_5_code 23 = .ok (.getfield 13, 3) := by decide +kernel
theorem d_Ref_width_26 : decode prog_8_method_5_code 26 = .ok (.iload_n 1, 1) := by decide +kernel
theorem d_Ref_width_27 : decode prog_8_method_5_code 27 = .ok (.iaload, 1) := by decide +kernel
theorem d_Ref_width_28 : decode prog_8_method_5_code 28 = .ok (.iconst 5, 1) := by decide +kernel
theorem d_Ref_width_29 : decode prog_8_method_5_code 29 = .ok (.if_icmp .ne 10, 3) := by decide +kernel
theorem d_Ref_width_32 : decode prog_8_method_5_code 32 = .ok (.aload_n 0, 1) := by decide +kernel
theorem d_Ref_width_33 : decode prog_8_method_5_code 33 = .ok (.getfield 16, 3) := by decide +kernel
theorem d_Ref_width_36 : decode prog_8_method_5_code 36 = .ok (.iload_n 1, 1) := by decide +kernel
theorem d_Ref_width_37 : decode prog_8_method_5_code 37 = .ok (.iaload, 1) := by decide +kernel
theorem d_Ref_width_38 : decode prog_8_method_5_code 38 = .ok (.ireturn, 1) := by decide +kernel
theorem d_Ref_width_39 : decode prog_8_method_5_code 39 = .ok (.aload_n 0, 1) := by decide +kernel
theorem d_Ref_width_40 : decode prog_8_method_5_code 40 = .ok (.getfield 13, 3) := by decide +kernel
theorem d_Ref_width_43 : decode prog_8_method_5_code 43 = .ok (.iload_n 1, 1) := by decide +kernel
theorem d_Ref_width_44 : decode prog_8_method_5_code 44 = .ok (.iaload, 1) := by decide +kernel
theorem d_Ref_width_45 : decode prog_8_method_5_code 45 = .ok (.bipush 6, 2) := by decide +kernel
theorem d_Ref_width_47 : decode prog_8_method_5_code 47 = .ok (.if_icmp .eq 7, 3) := by decide +kernel
theorem d_Ref_width_50 : decode prog_8_method_5_code 50 = .ok (.iconst 0, 1) := by decide +kernel
theorem d_Ref_width_51 : decode prog_8_method_5_code 51 = .ok (.goto 17, 3) := by decide +kernel
theorem d_Ref_width_54 : decode prog_8_method_5_code 54 = .ok (.aload_n 0, 1) := by decide +kernel
theorem d_Ref_width_55 : decode prog_8_method_5_code 55 = .ok (.getfield 25, 3) := by decide +kernel
theorem d_Ref_width_58 : decode prog_8_method_5_code 58 = .ok (.iload_n 1, 1) := by decide +kernel
theorem d_Ref_width_59 : decode prog_8_method_5_code 59 = .ok (.baload, 1) := by decide +kernel
theorem d_Ref_width_60 : decode prog_8_method_5_code 60 = .ok (.ifCond .eq 7, 3) := by decide +kernel
theorem d_Ref_width_63 : decode prog_8_method_5_code 63 = .ok (.iconst 2, 1) := by decide +kernel
theorem d_Ref_width_64 : decode prog_8_method_5_code 64 = .ok (.goto 4, 3) := by decide +kernel
theorem d_Ref_width_67 : decode prog_8_method_5_code 67 = .ok (.iconst 1, 1) := by decide +kernel
theorem d_Ref_width_68 : decode prog_8_method_5_code 68 = .ok (.ireturn, 1) := by decide +kernel
theorem d_Ref_place_0 : decode prog_8_method_6_code 0 = .ok (.iconst 0, 1) := by decide +kernel
theorem d_Ref_place_1 : decode prog_8_method_6_code 1 = .ok (.istore 4, 2) := by decide +kernel
theorem d_Ref_place_3 : decode prog_8_method_6_code 3 = .ok (.bipush 20, 2) := by decide +kernel
theorem d_Ref_place_5 : decode prog_8_method_6_code 5 = .ok (.iload_n 1, 1) := by decide +kernel
theorem d_Ref_place_6 : decode prog_8_method_6_code 6 = .ok (.imul, 1) := by decide +kernel
theorem d_Ref_place_7 : decode prog_8_method_6_code 7 = .ok (.istore 5, 2) := by decide +kernel
theorem d_Ref_place_9 : decode prog_8_method_6_code 9 = .ok (.iload 5, 2) := by decide +kernel
theorem d_Ref_place_11 : decode prog_8_method_6_code 11 = .ok (.iload_n 2, 1) := by decide +kernel
theorem d_Ref_place_12 : decode prog_8_method_6_code 12 = .ok (.if_icmp .ge 36, 3) := by decide +kernel
theorem d_Ref_place_15 : decode prog_8_method_6_code 15 = .ok (.aload_n 0, 1) := by decide +kernel
theorem d_Ref_place_16 : decode prog_8_method_6_code 16 = .ok (.getfield 22, 3) := by decide +kernel
theorem d_Ref_place_19 : decode prog_8_method_6_code 19 = .ok (.iload 5, 2) := by decide +kernel
theorem d_Ref_place_21 : decode prog_8_method_6_code 21 = .ok (.iaload, 1) := by decide +kernel
theorem d_Ref_place_22 : decode prog_8_method_6_code 22 = .ok (.iload_n 3, 1) := by decide +kernel
theorem d_Ref_place_23 : decode prog_8_method_6_code 23 = .ok (.if_icmp .ne 15, 3) := by decide +kernel
theorem d_Ref_place_26 : decode prog_8_method_6_code 26 = .ok (.iload 4, 2) := by decide +kernel
theorem d_Ref_place_28 : decode prog_8_method_6_code 28 = .ok (.aload_n 0, 1) := by decide +kernel
theorem d_Ref_place_29 : decode prog_8_method_6_code 29 = .ok (.iload 5, 2) := by decide +kernel
theorem d_Ref_place_31 : decode prog_8_method_6_code 31 = .ok (.invokevirtual 61, 3) := by decide +kernel
theorem d_Ref_place_34 : decode prog_8_method_6_code 34 = .ok (.iadd, 1) := by decide +kernel
theorem d_Ref_place_35 : decode prog_8_method_6_code 35 = .ok (.goto 5, 3) := by decide +kernel
theorem d_Ref_place_38 : decode prog_8_method_6_code 38 = .ok (.iload 4, 2) := by decide +kernel
theorem d_Ref_place_40 : decode prog_8_method_6_code 40 = .ok (.istore 4, 2) := by decide +kernel
theorem d_Ref_place_42 : decode prog_8_method_6_code 42 = .ok (.iinc 5 1, 3) := by decide +kernel
theorem d_Ref_place_45 : decode prog_8_method_6_code 45 = .ok (.goto (-36), 3) := by decide +kernel
theorem d_Ref_place_48 : decode prog_8_method_6_code 48 = .ok (.iload 4, 2) := by decide +kernel
theorem d_Ref_place_50 : decode prog_8_method_6_code 50 = .ok (.ireturn, 1) := by decide +kernel
theorem d_Ref_definition_0 : decode prog_8_method_7_code 0 = .ok (.bipush 20, 2) := by decide +kernel
theorem d_Ref_definition_2 : decode prog_8_method_7_code 2 = .ok (.iload_n 1, 1) := by decide +kernel
theorem d_Ref_definition_3 : decode prog_8_method_7_code 3 = .ok (.imul, 1) := by decide +kernel
theorem d_Ref_definition_4 : decode prog_8_method_7_code 4 = .ok (.istore_n 3, 1) := by decide +kernel
theorem d_Ref_definition_5 : decode prog_8_method_7_code 5 = .ok (.iload_n 3, 1) := by decide +kernel
theorem d_Ref_definition_6 : decode prog_8_method_7_code 6 = .ok (.bipush 20, 2) := by decide +kernel
theorem d_Ref_definition_8 : decode prog_8_method_7_code 8 = .ok (.iload_n 1, 1) := by decide +kernel
theorem d_Ref_definition_9 : decode prog_8_method_7_code 9 = .ok (.imul, 1) := by decide +kernel
theorem d_Ref_definition_10 : decode prog_8_method_7_code 10 = .ok (.aload_n 0, 1) := by decide +kernel
theorem d_Ref_definition_11 : decode prog_8_method_7_code 11 = .ok (.getfield 7, 3) := by decide +kernel
theorem d_Ref_definition_14 : decode prog_8_method_7_code 14 = .ok (.iload_n 1, 1) := by decide +kernel
theorem d_Ref_definition_15 : decode prog_8_method_7_code 15 = .ok (.iaload, 1) := by decide +kernel
theorem d_Ref_definition_16 : decode prog_8_method_7_code 16 = .ok (.iadd, 1) := by decide +kernel
theorem d_Ref_definition_17 : decode prog_8_method_7_code 17 = .ok (.if_icmp .ge 41, 3) := by decide +kernel
theorem d_Ref_definition_20 : decode prog_8_method_7_code 20 = .ok (.aload_n 0, 1) := by decide +kernel
theorem d_Ref_definition_21 : decode prog_8_method_7_code 21 = .ok (.getfield 13, 3) := by decide +kernel
theorem d_Ref_definition_24 : decode prog_8_method_7_code 24 = .ok (.iload_n 3, 1) := by decide +kernel
theorem d_Ref_definition_25 : decode prog_8_method_7_code 25 = .ok (.iaload, 1) := by decide +kernel
theorem d_Ref_definition_26 : decode prog_8_method_7_code 26 = .ok (.ifCond .eq 14, 3) := by decide +kernel
theorem d_Ref_definition_29 : decode prog_8_method_7_code 29 = .ok (.aload_n 0, 1) := by decide +kernel
theorem d_Ref_definition_30 : decode prog_8_method_7_code 30 = .ok (.getfield 13, 3) := by decide +kernel
theorem d_Ref_definition_33 : decode prog_8_method_7_code 33 = .ok (.iload_n 3, 1) := by decide +kernel
theorem d_Ref_definition_34 : decode prog_8_method_7_code 34 = .ok (.iaload, 1) := by decide +kernel
theorem d_Ref_definition_35 : decode prog_8_method_7_code 35 = .ok (.bipush 8, 2) := by decide +kernel
theorem d_Ref_definition_37 : decode prog_8_method_7_code 37 = .ok (.if_icmp .ne 15, 3) := by decide +kernel
theorem d_Ref_definition_40 : decode prog_8_method_7_code 40 = .ok (.aload_n 0, 1) := by decide +kernel
theorem d_Ref_definition_41 : decode prog_8_method_7_code 41 = .ok (.getfield 16, 3) := by decide +kernel
theorem d_Ref_definition_44 : decode prog_8_method_7_code 44 = .ok (.iload_n 3, 1) := by decide +kernel
theorem d_Ref_definition_45 : decode prog_8_method_7_code 45 = .ok (.iaload, 1) := by decide +kernel
theorem d_Ref_definition_46 : decode prog_8_method_7_code 46 = .ok (.iload_n 2, 1) := by decide +kernel
theorem d_Ref_definition_47 : decode prog_8_method_7_code 47 = .ok (.if_icmp .ne 5, 3) := by decide +kernel
theorem d_Ref_definition_50 : decode prog_8_method_7_code 50 = .ok (.iload_n 3, 1) := by decide +kernel
theorem d_Ref_definition_51 : decode prog_8_method_7_code 51 = .ok (.ireturn, 1) := by decide +kernel
theorem d_Ref_definition_52 : decode prog_8_method_7_code 52 = .ok (.iinc 3 1, 3) := by decide +kernel
theorem d_Ref_definition_55 : decode prog_8_method_7_code 55 = .ok (.goto (-50), 3) := by decide +kernel
theorem d_Ref_definition_58 : decode prog_8_method_7_code 58 = .ok (.iconst (-1), 1) := by decide +kernel
theorem d_Ref_definition_59 : decode prog_8_method_7_code 59 = .ok (.ireturn, 1) := by decide +kernel
theorem d_Ref_common_0 : decode prog_8_method_8_code 0 = .ok (.bipush 20, 2) := by decide +kernel
theorem d_Ref_common_2 : decode prog_8_method_8_code 2 = .ok (.iload_n 1, 1) := by decide +kernel
theorem d_Ref_common_3 : decode prog_8_method_8_code 3 = .ok (.imul, 1) := by decide +kernel
theorem d_Ref_common_4 : decode prog_8_method_8_code 4 = .ok (.istore_n 3, 1) := by decide +kernel
theorem d_Ref_common_5 : decode prog_8_method_8_code 5 = .ok (.iload_n 3, 1) := by decide +kernel
theorem d_Ref_common_6 : decode prog_8_method_8_code 6 = .ok (.bipush 20, 2) := by decide +kernel
theorem d_Ref_common_8 : decode prog_8_method_8_code 8 = .ok (.iload_n 1, 1) := by decide +kernel
theorem d_Ref_common_9 : decode prog_8_method_8_code 9 = .ok (.imul, 1) := by decide +kernel
theorem d_Ref_common_10 : decode prog_8_method_8_code 10 = .ok (.aload_n 0, 1) := by decide +kernel
theorem d_Ref_common_11 : decode prog_8_method_8_code 11 = .ok (.getfield 7, 3) := by decide +kernel
theorem d_Ref_common_14 : decode prog_8_method_8_code 14 = .ok (.iload_n 1, 1) := by decide +kernel
theorem d_Ref_common_15 : decode prog_8_method_8_code 15 = .ok (.iaload, 1) := by decide +kernel
theorem d_Ref_common_16 : decode prog_8_method_8_code 16 = .ok (.iadd, 1) := by decide +kernel
theorem d_Ref_common_17 : decode prog_8_method_8_code 17 = .ok (.if_icmp .ge 37, 3) := by decide +kernel
theorem d_Ref_common_20 : decode prog_8_method_8_code 20 = .ok (.aload_n 0, 1) := by decide +kernel
theorem d_Ref_common_21 : decode prog_8_method_8_code 21 = .ok (.getfield 13, 3) := by decide +kernel
theorem d_Ref_common_24 : decode prog_8_method_8_code 24 = .ok (.iload_n 3, 1) := by decide +kernel
theorem d_Ref_common_25 : decode prog_8_method_8_code 25 = .ok (.iaload, 1) := by decide +kernel
theorem d_Ref_common_26 : decode prog_8_method_8_code 26 = .ok (.bipush 7, 2) := by decide +kernel
theorem d_Ref_common_28 : decode prog_8_method_8_code 28 = .ok (.if_icmp .ne 20, 3) := by decide +kernel
theorem d_Ref_common_31 : decode prog_8_method_8_code 31 = .ok (.aload_n 0, 1) := by decide +kernel
theorem d_Ref_common_32 : decode prog_8_method_8_code 32 = .ok (.getfield 16, 3) := by decide +kernel
theorem d_Ref_common_35 : decode prog_8_method_8_code 35 = .ok (.iload_n 3, 1) := by decide +kernel
theorem d_Ref_common_36 : decode prog_8_method_8_code 36 = .ok (.iaload, 1) := by decide +kernel
theorem d_Ref_common_37 : decode prog_8_method_8_code 37 = .ok (.iload_n 2, 1) := by decide +kernel
theorem d_Ref_common_38 : decode prog_8_method_8_code 38 = .ok (.if_icmp .ne 10, 3) := by decide +kernel
theorem d_Ref_common_41 : decode prog_8_method_8_code 41 = .ok (.aload_n 0, 1) := by decide +kernel
theorem d_Ref_common_42 : decode prog_8_method_8_code 42 = .ok (.getfield 19, 3) := by decide +kernel
theorem d_Ref_common_45 : decode prog_8_method_8_code 45 = .ok (.iload_n 3, 1) := by decide +kernel
theorem d_Ref_common_46 : decode prog_8_method_8_code 46 = .ok (.iaload, 1) := by decide +kernel
theorem d_Ref_common_47 : decode prog_8_method_8_code 47 = .ok (.ireturn, 1) := by decide +kernel
theorem d_Ref_common_48 : decode prog_8_method_8_code 48 = .ok (.iinc 3 1, 3) := by decide +kernel
theorem d_Ref_common_51 : decode prog_8_method_8_code 51 = .ok (.goto (-46), 3) := by decide +kernel
theorem d_Ref_common_54 : decode prog_8_method_8_code 54 = .ok (.iconst 0, 1) := by decide +kernel
theorem d_Ref_common_55 : decode prog_8_method_8_code 55 = .ok (.ireturn, 1) := by decide +kernel
theorem d_Ref_global_0 : decode prog_8_method_9_code 0 = .ok (.iconst 0, 1) := by decide +kernel
theorem d_Ref_global_1 : decode prog_8_method_9_code 1 = .ok (.istore_n 3, 1) := by decide +kernel
theorem d_Ref_global_2 : decode prog_8_method_9_code 2 = .ok (.bipush 20, 2) := by decide +kernel
theorem d_Ref_global_4 : decode prog_8_method_9_code 4 = .ok (.iload_n 1, 1) := by decide +kernel
theorem d_Ref_global_5 : decode prog_8_method_9_code 5 = .ok (.imul, 1) := by decide +kernel
theorem d_Ref_global_6 : decode prog_8_method_9_code 6 = .ok (.istore 4, 2) := by decide +kernel
theorem d_Ref_global_8 : decode prog_8_method_9_code 8 = .ok (.iload 4, 2) := by decide +kernel
theorem d_Ref_global_10 : decode prog_8_method_9_code 10 = .ok (.bipush 20, 2) := by decide +kernel
theorem d_Ref_global_12 : decode prog_8_method_9_code 12 = .ok (.iload_n 1, 1) := by decide +kernel
theorem d_Ref_global_13 : decode prog_8_method_9_code 13 = .ok (.imul, 1) := by decide +kernel
theorem d_Ref_global_14 : decode prog_8_method_9_code 14 = .ok (.aload_n 0, 1) := by decide +kernel
theorem d_Ref_global_15 : decode prog_8_method_9_code 15 = .ok (.getfield 7, 3) := by decide +kernel
theorem d_Ref_global_18 : decode prog_8_method_9_code 18 = .ok (.iload_n 1, 1) := by decide +kernel
theorem d_Ref_global_19 : decode prog_8_method_9_code 19 = .ok (.iaload, 1) := by decide +kernel
theorem d_Ref_global_20 : decode prog_8_method_9_code 20 = .ok (.iadd, 1) := by decide +kernel
theorem d_Ref_global_21 : decode prog_8_method_9_code 21 = .ok (.if_icmp .ge 41, 3) := by decide +kernel
theorem d_Ref_global_24 : decode prog_8_method_9_code 24 = .ok (.iload_n 3, 1) := by decide +kernel
theorem d_Ref_global_25 : decode prog_8_method_9_code 25 = .ok (.ifCond .ne 25, 3) := by decide +kernel
theorem d_Ref_global_28 : decode prog_8_method_9_code 28 = .ok (.aload_n 0, 1) := by decide +kernel
theorem d_Ref_global_29 : decode prog_8_method_9_code 29 = .ok (.getfield 13, 3) := by decide +kernel
theorem d_Ref_global_32 : decode prog_8_method_9_code 32 = .ok (.iload 4, 2) := by decide +kernel
theorem d_Ref_global_34 : decode prog_8_method_9_code 34 = .ok (.iaload, 1) := by decide +kernel
theorem d_Ref_global_35 : decode prog_8_method_9_code 35 = .ok (.iconst 1, 1) := by decide +kernel
theorem d_Ref_global_36 : decode prog_8_method_9_code 36 = .ok (.if_icmp .ne 18, 3) := by decide +kernel
theorem d_Ref_global_39 : decode prog_8_method_9_code 39 = .ok (.aload_n 0, 1) := by decide +kernel
theorem d_Ref_global_40 : decode prog_8_method_9_code 40 = .ok (.getfield 16, 3) := by decide +kernel
theorem d_Ref_global_43 : decode prog_8_method_9_code 43 = .ok (.iload 4, 2) := by decide +kernel
theorem d_Ref_global_45 : decode prog_8_method_9_code 45 = .ok (.iaload, 1) := by decide +kernel
theorem d_Ref_global_46 : decode prog_8_method_9_code 46 = .ok (.iload_n 2, 1) := by decide +kernel
theorem d_Ref_global_47 : decode prog_8_method_9_code 47 = .ok (.if_icmp .ne 7, 3) := by decide +kernel
theorem d_Ref_global_50 : decode prog_8_method_9_code 50 = .ok (.iconst 1, 1) := by decide +kernel
theorem d_Ref_global_51 : decode prog_8_method_9_code 51 = .ok (.goto 4, 3) := by decide +kernel
theorem d_Ref_global_54 : decode prog_8_method_9_code 54 = .ok (.iconst 0, 1) := by decide +kernel
theorem d_Ref_global_55 : decode prog_8_method_9_code 55 = .ok (.istore_n 3, 1) := by decide +kernel
theorem d_Ref_global_56 : decode prog_8_method_9_code 56 = .ok (.iinc 4 1, 3) := by decide +kernel
theorem d_Ref_global_59 : decode prog_8_method_9_code 59 = .ok (.goto (-51), 3) := by decide +kernel
theorem d_Ref_global_62 : decode prog_8_method_9_code 62 = .ok (.iload_n 3, 1) := by decide +kernel
theorem d_Ref_global_63 : decode prog_8_method_9_code 63 = .ok (.ireturn, 1) := by decide +kernel
theorem d_Ref_exports_0 : decode prog_8_method_10_code 0 = .ok (.aload_n 0, 1) := by decide +kernel
theorem d_Ref_exports_1 : decode prog_8_method_10_code 1 = .ok (.iload_n 1, 1) := by decide +kernel
theorem d_Ref_exports_2 : decode prog_8_method_10_code 2 = .ok (.iload_n 2, 1) := by decide +kernel
theorem d_Ref_exports_3 : decode prog_8_method_10_code 3 = .ok (.invokevirtual 65, 3) := by decide +kernel
theorem d_Ref_exports_6 : decode prog_8_method_10_code 6 = .ok (.ifCond .eq 16, 3) := by decide +kernel
theorem d_Ref_exports_9 : decode prog_8_method_10_code 9 = .ok (.aload_n 0, 1) := by decide +kernel
theorem d_Ref_exports_10 : decode prog_8_method_10_code 10 = .ok (.iload_n 1, 1) := by decide +kernel
theorem d_Ref_exports_11 : decode prog_8_method_10_code 11 = .ok (.iload_n 2, 1) := by decide +kernel
theorem d_Ref_exports_12 : decode prog_8_method_10_code 12 = .ok (.invokevirtual 69, 3) := by decide +kernel
theorem d_Ref_exports_15 : decode prog_8_method_10_code 15 = .ok (.ifCond .lt 7, 3) := by decide +kernel
theorem d_Ref_exports_18 : decode prog_8_method_10_code 18 = .ok (.iconst 1, 1) := by decide +kernel
theorem d_Ref_exports_19 : decode prog_8_method_10_code 19 = .ok (.goto 4, 3) := by decide +kernel
theorem d_Ref_exports_22 : decode prog_8_method_10_code 22 = .ok (.iconst 0, 1) := by decide +kernel
theorem d_Ref_exports_23 : decode prog_8_method_10_code 23 = .ok (.ireturn, 1) := by decide +kernel
theorem d_Ref_refers_0 : decode prog_8_method_11_code 0 = .ok (.aload_n 0, 1) := by decide +kernel
theorem d_Ref_refers_1 : decode prog_8_method_11_code 1 = .ok (.iload_n 1, 1) := by decide +kernel
theorem d_Ref_refers_2 : decode prog_8_method_11_code 2 = .ok (.iload_n 2, 1) := by decide +kernel
theorem d_Ref_refers_3 : decode prog_8_method_11_code 3 = .ok (.invokevirtual 69, 3) := by decide +kernel
theorem d_Ref_refers_6 : decode prog_8_method_11_code 6 = .ok (.ifCond .ge 12, 3) := by decide +kernel
theorem d_Ref_refers_9 : decode prog_8_method_11_code 9 = .ok (.aload_n 0, 1) := by decide +kernel
theorem d_Ref_refers_10 : decode prog_8_method_11_code 10 = .ok (.iload_n 1, 1) := by decide +kernel
theorem d_Ref_refers_11 : decode prog_8_method_11_code 11 = .ok (.iload_n 2, 1) := by decide +kernel
theorem d_Ref_refers_12 : decode prog_8_method_11_code 12 = .ok (.invokevirtual 73, 3) := by decide +kernel
theorem d_Ref_refers_15 : decode prog_8_method_11_code 15 = .ok (.ifCond .le 5, 3) := by decide +kernel
theorem d_Ref_refers_18 : decode prog_8_method_11_code 18 = .ok (.iconst 0, 1) := by decide +kernel
theorem d_Ref_refers_19 : decode prog_8_method_11_code 19 = .ok (.ireturn, 1) := by decide +kernel
theorem d_Ref_refers_20 : decode prog_8_method_11_code 20 = .ok (.aload_n 0, 1) := by decide +kernel
theorem d_Ref_refers_21 : decode prog_8_method_11_code 21 = .ok (.iload_n 1, 1) := by decide +kernel
theorem d_Ref_refers_22 : decode prog_8_method_11_code 22 = .ok (.iload_n 2, 1) := by decide +kernel
theorem d_Ref_refers_23 : decode prog_8_method_11_code 23 = .ok (.invokevirtual 65, 3) := by decide +kernel
theorem d_Ref_refers_26 : decode prog_8_method_11_code 26 = .ok (.istore_n 3, 1) := by decide +kernel
theorem d_Ref_refers_27 : decode prog_8_method_11_code 27 = .ok (.bipush 20, 2) := by decide +kernel
theorem d_Ref_refers_29 : decode prog_8_method_11_code 29 = .ok (.iload_n 1, 1) := by decide +kernel
theorem d_Ref_refers_30 : decode prog_8_method_11_code 30 = .ok (.imul, 1) := by decide +kernel
theorem d_Ref_refers_31 : decode prog_8_method_11_code 31 = .ok (.istore 4, 2) := by decide +kernel
theorem d_Ref_refers_33 : decode prog_8_method_11_code 33 = .ok (.iload 4, 2) := by decide +kernel
theorem d_Ref_refers_35 : decode prog_8_method_11_code 35 = .ok (.bipush 20, 2) := by decide +kernel
theorem d_Ref_refers_37 : decode prog_8_method_11_code 37 = .ok (.iload_n 1, 1) := by decide +kernel
theorem d_Ref_refers_38 : decode prog_8_method_11_code 38 = .ok (.imul, 1) := by decide +kernel
theorem d_Ref_refers_39 : decode prog_8_method_11_code 39 = .ok (.aload_n 0, 1) := by decide +kernel
theorem d_Ref_refers_40 : decode prog_8_method_11_code 40 = .ok (.getfield 7, 3) := by decide +kernel
theorem d_Ref_refers_43 : decode prog_8_method_11_code 43 = .ok (.iload_n 1, 1) := by decide +kernel
theorem d_Ref_refers_44 : decode prog_8_method_11_code 44 = .ok (.iaload, 1) := by decide +kernel
theorem d_Ref_refers_45 : decode prog_8_method_11_code 45 = .ok (.iadd, 1) := by decide +kernel
theorem d_Ref_refers_46 : decode prog_8_method_11_code 46 = .ok (.if_icmp .ge 53, 3) := by decide +kernel
theorem d_Ref_refers_49 : decode prog_8_method_11_code 49 = .ok (.iload_n 3, 1) := by decide +kernel
theorem d_Ref_refers_50 : decode prog_8_method_11_code 50 = .ok (.ifCond .ne 37, 3) := by decide +kernel
theorem d_Ref_refers_53 : decode prog_8_method_11_code 53 = .ok (.aload_n 0, 1) := by decide +kernel
theorem d_Ref_refers_54 : decode prog_8_method_11_code 54 = .ok (.getfield 13, 3) := by decide +kernel
theorem d_Ref_refers_57 : decode prog_8_method_11_code 57 = .ok (.iload 4, 2) := by decide +kernel
theorem d_Ref_refers_59 : decode prog_8_method_11_code 59 = .ok (.iaload, 1) := by decide +kernel
theorem d_Ref_refers_60 : decode prog_8_method_11_code 60 = .ok (.iconst 4, 1) := by decide +kernel
theorem d_Ref_refers_61 : decode prog_8_method_11_code 61 = .ok (.if_icmp .eq 15, 3) := by decide +kernel
theorem d_Ref_refers_64 : decode prog_8_method_11_code 64 = .ok (.aload_n 0, 1) := by decide +kernel
theorem d_Ref_refers_65 : decode prog_8_method_11_code 65 = .ok (.getfield 13, 3) := by decide +kernel
theorem d_Ref_refers_68 : decode prog_8_method_11_code 68 = .ok (.iload 4, 2) := by decide +kernel
theorem d_Ref_refers_70 : decode prog_8_method_11_code 70 = .ok (.iaload, 1) := by decide +kernel
theorem d_Ref_refers_71 : decode prog_8_method_11_code 71 = .ok (.bipush 6, 2) := by decide +kernel
theorem d_Ref_refers_73 : decode prog_8_method_11_code 73 = .ok (.if_icmp .ne 18, 3) := by decide +kernel
theorem d_Ref_refers_76 : decode prog_8_method_11_code 76 = .ok (.aload_n 0, 1) := by decide +kernel
theorem d_Ref_refers_77 : decode prog_8_method_11_code 77 = .ok (.getfield 16, 3) := by decide +kernel
theorem d_Ref_refers_80 : decode prog_8_method_11_code 80 = .ok (.iload 4, 2) := by decide +kernel
theorem d_Ref_refers_82 : decode prog_8_method_11_code 82 = .ok (.iaload, 1) := by decide +kernel
theorem d_Ref_refers_83 : decode prog_8_method_11_code 83 = .ok (.iload_n 2, 1) := by decide +kernel
theorem d_Ref_refers_84 : decode prog_8_method_11_code 84 = .ok (.if_icmp .ne 7, 3) := by decide +kernel
theorem d_Ref_refers_87 : decode prog_8_method_11_code 87 = .ok (.iconst 1, 1) := by decide +kernel
theorem d_Ref_refers_88 : decode prog_8_method_11_code 88 = .ok (.goto 4, 3) := by decide +kernel
theorem d_Ref_refers_91 : decode prog_8_method_11_code 91 = .ok (.iconst 0, 1) := by decide +kernel
theorem d_Ref_refers_92 : decode prog_8_method_11_code 92 = .ok (.istore_n 3, 1) := by decide +kernel
theorem d_Ref_refers_93 : decode prog_8_method_11_code 93 = .ok (.iinc 4 1, 3) := by decide +kernel
theorem d_Ref_refers_96 : decode prog_8_method_11_code 96 = .ok (.goto (-63), 3) := by decide +kernel
theorem d_Ref_refers_99 : decode prog_8_method_11_code 99 = .ok (.iload_n 3, 1) := by decide +kernel
theorem d_Ref_refers_100 : decode prog_8_method_11_code 100 = .ok (.ireturn, 1) := by decide +kernel
theorem d_Ref_distance_0 : decode prog_8_method_12_code 0 = .ok (.aload_n 0, 1) := by decide +kernel
theorem d_Ref_distance_1 : decode prog_8_method_12_code 1 = .ok (.iload_n 1, 1) := by decide +kernel
theorem d_Ref_distance_2 : decode prog_8_method_12_code 2 = .ok (.aload_n 0, 1) := by decide +kernel
theorem d_Ref_distance_3 : decode prog_8_method_12_code 3 = .ok (.getfield 16, 3) := by decide +kernel
theorem d_Ref_distance_6 : decode prog_8_method_12_code 6 = .ok (.iload_n 2, 1) := by decide +kernel
theorem d_Ref_distance_7 : decode prog_8_method_12_code 7 = .ok (.iaload, 1) := by decide +kernel
theorem d_Ref_distance_8 : decode prog_8_method_12_code 8 = .ok (.invokevirtual 69, 3) := by decide +kernel
theorem d_Ref_distance_11 : decode prog_8_method_12_code 11 = .ok (.istore_n 3, 1) := by decide +kernel
theorem d_Ref_distance_12 : decode prog_8_method_12_code 12 = .ok (.iload_n 3, 1) := by decide +kernel
theorem d_Ref_distance_13 : decode prog_8_method_12_code 13 = .ok (.ifCond .lt 21, 3) := by decide +kernel
theorem d_Ref_distance_16 : decode prog_8_method_12_code 16 = .ok (.aload_n 0, 1) := by decide +kernel
theorem d_Ref_distance_17 : decode prog_8_method_12_code 17 = .ok (.getfield 13, 3) := by decide +kernel
theorem d_Ref_distance_20 : decode prog_8_method_12_code 20 = .ok (.iload_n 3, 1) := by decide +kernel
theorem d_Ref_distance_21 : decode prog_8_method_12_code 21 = .ok (.iaload, 1) := by decide +kernel
theorem d_Ref_distance_22 : decode prog_8_method_12_code 22 = .ok (.ifCond .ne 12, 3) := by decide +kernel
theorem d_Ref_distance_25 : decode prog_8_method_12_code 25 = .ok (.aload_n 0, 1) := by decide +kernel
theorem d_Ref_distance_26 : decode prog_8_method_12_code 26 = .ok (.getfield 22, 3) := by decide +kernel
theorem d_Ref_distance_29 : decode prog_8_method_12_code 29 = .ok (.iload_n 3, 1) := by decide +kernel
theorem d_Ref_distance_30 : decode prog_8_method_12_code 30 = .ok (.iaload, 1) := by decide +kernel
theorem d_Ref_distance_31 : decode prog_8_method_12_code 31 = .ok (.ifCond .eq 7, 3) := by decide +kernel
theorem d_Ref_distance_34 : decode prog_8_method_12_code 34 = .ok (.sipush 1000, 3) := by decide +kernel
theorem d_Ref_distance_37 : decode prog_8_method_12_code 37 = .ok (.ireturn, 1) := by decide +kernel
theorem d_Ref_distance_38 : decode prog_8_method_12_code 38 = .ok (.aload_n 0, 1) := by decide +kernel
theorem d_Ref_distance_39 : decode prog_8_method_12_code 39 = .ok (.iload_n 1, 1) := by decide +kernel
theorem d_Ref_distance_40 : decode prog_8_method_12_code 40 = .ok (.iload_n 3, 1) := by decide +kernel
theorem d_Ref_distance_41 : decode prog_8_method_12_code 41 = .ok (.iconst 0, 1) := by decide +kernel
theorem d_Ref_distance_42 : decode prog_8_method_12_code 42 = .ok (.invokevirtual 76, 3) := by decide +kernel
theorem d_Ref_distance_45 : decode prog_8_method_12_code 45 = .ok (.istore 4, 2) := by decide +kernel
theorem d_Ref_distance_47 : decode prog_8_method_12_code 47 = .ok (.aload_n 0, 1) := by decide +kernel
theorem d_Ref_distance_48 : decode prog_8_method_12_code 48 = .ok (.iload_n 1, 1) := by decide +kernel
theorem d_Ref_distance_49 : decode prog_8_method_12_code 49 = .ok (.iload_n 2, 1) := by decide +kernel
theorem d_Ref_distance_50 : decode prog_8_method_12_code 50 = .ok (.iconst 0, 1) := by decide +kernel
theorem d_Ref_distance_51 : decode prog_8_method_12_code 51 = .ok (.invokevirtual 76, 3) := by decide +kernel
theorem d_Ref_distance_54 : decode prog_8_method_12_code 54 = .ok (.istore 5, 2) := by decide +kernel
theorem d_Ref_distance_56 : decode prog_8_method_12_code 56 = .ok (.iload 4, 2) := by decide +kernel
theorem d_Ref_distance_58 : decode prog_8_method_12_code 58 = .ok (.iload 5, 2) := by decide +kernel
theorem d_Ref_distance_60 : decode prog_8_method_12_code 60 = .ok (.isub, 1) := by decide +kernel
theorem d_Ref_distance_61 : decode prog_8_method_12_code 61 = .ok (.iconst 1, 1) := by decide +kernel
theorem d_Ref_distance_62 : decode prog_8_method_12_code 62 = .ok (.isub, 1) := by decide +kernel
theorem d_Ref_distance_63 : decode prog_8_method_12_code 63 = .ok (.ireturn, 1) := by decide +kernel
theorem d_Ref_settle_0 : decode prog_8_method_13_code 0 = .ok (.bipush 20, 2) := by decide +kernel
theorem d_Ref_settle_2 : decode prog_8_method_13_code 2 = .ok (.iload_n 1, 1) := by decide +kernel
theorem d_Ref_settle_3 : decode prog_8_method_13_code 3 = .ok (.imul, 1) := by decide +kernel
theorem d_Ref_settle_4 : decode prog_8_method_13_code 4 = .ok (.aload_n 0, 1) := by decide +kernel
theorem d_Ref_settle_5 : decode prog_8_method_13_code 5 = .ok (.getfield 7, 3) := by decide +kernel
theorem d_Ref_settle_8 : decode prog_8_method_13_code 8 = .ok (.iload_n 1, 1) := by decide +kernel
theorem d_Ref_settle_9 : decode prog_8_method_13_code 9 = .ok (.iaload, 1) := by decide +kernel
theorem d_Ref_settle_10 : decode prog_8_method_13_code 10 = .ok (.iadd, 1) := by decide +kernel
theorem d_Ref_settle_11 : decode prog_8_method_13_code 11 = .ok (.istore_n 2, 1) := by decide +kernel
theorem d_Ref_settle_12 : decode prog_8_method_13_code 12 = .ok (.bipush 20, 2) := by decide +kernel
theorem d_Ref_settle_14 : decode prog_8_method_13_code 14 = .ok (.iload_n 1, 1) := by decide +kernel
theorem d_Ref_settle_15 : decode prog_8_method_13_code 15 = .ok (.imul, 1) := by decide +kernel
theorem d_Ref_settle_16 : decode prog_8_method_13_code 16 = .ok (.istore_n 3, 1) := by decide +kernel
theorem d_Ref_settle_17 : decode prog_8_method_13_code 17 = .ok (.iload_n 3, 1) := by decide +kernel
theorem d_Ref_settle_18 : decode prog_8_method_13_code 18 = .ok (.iload_n 2, 1) := by decide +kernel
theorem d_Ref_settle_19 : decode prog_8_method_13_code 19 = .ok (.if_icmp .ge 16, 3) := by decide +kernel
theorem d_Ref_settle_22 : decode prog_8_method_13_code 22 = .ok (.aload_n 0, 1) := by decide +kernel
theorem d_Ref_settle_23 : decode prog_8_method_13_code 23 = .ok (.getfield 25, 3) := by decide +kernel
theorem d_Ref_settle_26 : decode prog_8_method_13_code 26 = .ok (.iload_n 3, 1) := by decide +kernel
theorem d_Ref_settle_27 : decode prog_8_method_13_code 27 = .ok (.iconst 0, 1) := by decide +kernel
theorem d_Ref_settle_28 : decode prog_8_method_13_code 28 = .ok (.bastore, 1) := by decide +kernel
theorem d_Ref_settle_29 : decode prog_8_method_13_code 29 = .ok (.iinc 3 1, 3) := by decide +kernel
theorem d_Ref_settle_32 : decode prog_8_method_13_code 32 = .ok (.goto (-15), 3) := by decide +kernel
theorem d_Ref_settle_35 : decode prog_8_method_13_code 35 = .ok (.iconst 0, 1) := by decide +kernel
theorem d_Ref_settle_36 : decode prog_8_method_13_code 36 = .ok (.istore_n 3, 1) := by decide +kernel
theorem d_Ref_settle_37 : decode prog_8_method_13_code 37 = .ok (.iload_n 3, 1) := by decide +kernel
theorem d_Ref_settle_38 : decode prog_8_method_13_code 38 = .ok (.bipush 21, 2) := by decide +kernel
theorem d_Ref_settle_40 : decode prog_8_method_13_code 40 = .ok (.if_icmp .ge 88, 3) := by decide +kernel
theorem d_Ref_settle_43 : decode prog_8_method_13_code 43 = .ok (.bipush 20, 2) := by decide +kernel
theorem d_Ref_settle_45 : decode prog_8_method_13_code 45 = .ok (.iload_n 1, 1) := by decide +kernel
theorem d_Ref_settle_46 : decode prog_8_method_13_code 46 = .ok (.imul, 1) := by decide +kernel
theorem d_Ref_settle_47 : decode prog_8_method_13_code 47 = .ok (.istore 4, 2) := by decide +kernel
theorem d_Ref_settle_49 : decode prog_8_method_13_code 49 = .ok (.iload 4, 2) := by decide +kernel
theorem d_Ref_settle_51 : decode prog_8_method_13_code 51 = .ok (.iload_n 2, 1) := by decide +kernel
theorem d_Ref_settle_52 : decode prog_8_method_13_code 52 = .ok (.if_icmp .ge 55, 3) := by decide +kernel
theorem d_Ref_settle_55 : decode prog_8_method_13_code 55 = .ok (.aload_n 0, 1) := by decide +kernel
theorem d_Ref_settle_56 : decode prog_8_method_13_code 56 = .ok (.getfield 13, 3) := by decide +kernel
theorem d_Ref_settle_59 : decode prog_8_method_13_code 59 = .ok (.iload 4, 2) := by decide +kernel
theorem d_Ref_settle_61 : decode prog_8_method_13_code 61 = .ok (.iaload, 1) := by decide +kernel
theorem d_Ref_settle_62 : decode prog_8_method_13_code 62 = .ok (.bipush 6, 2) := by decide +kernel
theorem d_Ref_settle_64 : decode prog_8_method_13_code 64 = .ok (.if_icmp .ne 37, 3) := by decide +kernel
theorem d_Ref_settle_67 : decode prog_8_method_13_code 67 = .ok (.aload_n 0, 1) := by decide +kernel
theorem d_Ref_settle_68 : decode prog_8_method_13_code 68 = .ok (.getfield 25, 3) := by decide +kernel
theorem d_Ref_settle_71 : decode prog_8_method_13_code 71 = .ok (.iload 4, 2) := by decide +kernel
theorem d_Ref_settle_73 : decode prog_8_method_13_code 73 = .ok (.baload, 1) := by decide +kernel
theorem d_Ref_settle_74 : decode prog_8_method_13_code 74 = .ok (.ifCond .ne 27, 3) := by decide +kernel
theorem d_Ref_settle_77 : decode prog_8_method_13_code 77 = .ok (.aload_n 0, 1) := by decide +kernel
theorem d_Ref_settle_78 : decode prog_8_method_13_code 78 = .ok (.iload_n 1, 1) := by decide +kernel
theorem d_Ref_settle_79 : decode prog_8_method_13_code 79 = .ok (.iload 4, 2) := by decide +kernel
theorem d_Ref_settle_81 : decode prog_8_method_13_code 81 = .ok (.invokevirtual 80, 3) := by decide +kernel
theorem d_Ref_settle_84 : decode prog_8_method_13_code 84 = .ok (.bipush (-8), 2) := by decide +kernel
theorem d_Ref_settle_86 : decode prog_8_method_13_code 86 = .ok (.if_icmp .lt 21, 3) := by decide +kernel
theorem d_Ref_settle_89 : decode prog_8_method_13_code 89 = .ok (.aload_n 0, 1) := by decide +kernel
theorem d_Ref_settle_90 : decode prog_8_method_13_code 90 = .ok (.iload_n 1, 1) := by decide +kernel
theorem d_Ref_settle_91 : decode prog_8_method_13_code 91 = .ok (.iload 4, 2) := by decide +kernel
theorem d_Ref_settle_93 : decode prog_8_method_13_code 93 = .ok (.invokevirtual 80, 3) := by decide +kernel
theorem d_Ref_settle_96 : decode prog_8_method_13_code 96 = .ok (.bipush 7, 2) := by decide +kernel
theorem d_Ref_settle_98 : decode prog_8_method_13_code 98 = .ok (.if_icmp .gt 9, 3) := by decide +kernel
theorem d_Ref_settle_101 : decode prog_8_method_13_code 101 = .ok (.iinc 4 1, 3) := by decide +kernel
theorem d_Ref_settle_104 : decode prog_8_method_13_code 104 = .ok (.goto (-55), 3) := by decide +kernel
theorem d_Ref_settle_107 : decode prog_8_method_13_code 107 = .ok (.iload 4, 2) := by decide +kernel
theorem d_Ref_settle_109 : decode prog_8_method_13_code 109 = .ok (.iload_n 2, 1) := by decide +kernel
theorem d_Ref_settle_110 : decode prog_8_method_13_code 110 = .ok (.if_icmp .ne 4, 3) := by decide +kernel
theorem d_Ref_settle_113 : decode prog_8_method_13_code 113 = .ok (.return_, 1) := by decide +kernel
theorem d_Ref_settle_114 : decode prog_8_method_13_code 114 = .ok (.aload_n 0, 1) := by decide +kernel
theorem d_Ref_settle_115 : decode prog_8_method_13_code 115 = .ok (.getfield 25, 3) := by decide +kernel
theorem d_Ref_settle_118 : decode prog_8_method_13_code 118 = .ok (.iload 4, 2) := by decide +kernel
theorem d_Ref_settle_120 : decode prog_8_method_13_code 120 = .ok (.iconst 1, 1) := by decide +kernel
theorem d_Ref_settle_121 : decode prog_8_method_13_code 121 = .ok (.bastore, 1) := by decide +kernel
theorem d_Ref_settle_122 : decode prog_8_method_13_code 122 = .ok (.iinc 3 1, 3) := by decide +kernel
theorem d_Ref_settle_125 : decode prog_8_method_13_code 125 = .ok (.goto (-88), 3) := by decide +kernel
theorem d_Ref_settle_128 : decode prog_8_method_13_code 128 = .ok (.return_, 1) := by decide +kernel
theorem d_Ref_fits_0 : decode prog_8_method_14_code 0 = .ok (.iload_n 1, 1) := by decide +kernel
theorem d_Ref_fits_1 : decode prog_8_method_14_code 1 = .ok (.tableswitch 193 0 8 #[51, 51, 57, 72, 78, 106, 123, 146, 171], 51) := by decide +kernel
theorem d_Ref_fits_52 : decode prog_8_method_14_code 52 = .ok (.aload_n 0, 1) := by decide +kernel
theorem d_Ref_fits_53 : decode prog_8_method_14_code 53 = .ok (.iload_n 2, 1) := by decide +kernel
theorem d_Ref_fits_54 : decode prog_8_method_14_code 54 = .ok (.invokevirtual 83, 3) := by decide +kernel
theorem d_Ref_fits_57 : decode prog_8_method_14_code 57 = .ok (.ireturn, 1) := by decide +kernel
theorem d_Ref_fits_58 : decode prog_8_method_14_code 58 = .ok (.iload_n 2, 1) := by decide +kernel
theorem d_Ref_fits_59 : decode prog_8_method_14_code 59 = .ok (.ifCond .lt 12, 3) := by decide +kernel
theorem d_Ref_fits_62 : decode prog_8_method_14_code 62 = .ok (.iload_n 2, 1) := by decide +kernel
theorem d_Ref_fits_63 : decode prog_8_method_14_code 63 = .ok (.iconst 2, 1) := by decide +kernel
theorem d_Ref_fits_64 : decode prog_8_method_14_code 64 = .ok (.if_icmp .gt 7, 3) := by decide +kernel
theorem d_Ref_fits_67 : decode prog_8_method_14_code 67 = .ok (.iconst 1, 1) := by decide +kernel
theorem d_Ref_fits_68 : decode prog_8_method_14_code 68 = .ok (.goto 4, 3) := by decide +kernel
theorem d_Ref_fits_71 : decode prog_8_method_14_code 71 = .ok (.iconst 0, 1) := by decide +kernel
theorem d_Ref_fits_72 : decode prog_8_method_14_code 72 = .ok (.ireturn, 1) := by decide +kernel
theorem d_Ref_fits_73 : decode prog_8_method_14_code 73 = .ok (.aload_n 0, 1) := by decide +kernel
theorem d_Ref_fits_74 : decode prog_8_method_14_code 74 = .ok (.iload_n 2, 1) := by decide +kernel
theorem d_Ref_fits_75 : decode prog_8_method_14_code 75 = .ok (.invokevirtual 87, 3) := by decide +kernel
theorem d_Ref_fits_78 : decode prog_8_method_14_code 78 = .ok (.ireturn, 1) := by decide +kernel
theorem d_Ref_fits_79 : decode prog_8_method_14_code 79 = .ok (.aload_n 0, 1) := by decide +kernel
theorem d_Ref_fits_80 : decode prog_8_method_14_code 80 = .ok (.iload_n 2, 1) := by decide +kernel
theorem d_Ref_fits_81 : decode prog_8_method_14_code 81 = .ok (.invokevirtual 83, 3) := by decide +kernel
theorem d_Ref_fits_84 : decode prog_8_method_14_code 84 = .ok (.ifCond .eq 21, 3) := by decide +kernel
theorem d_Ref_fits_87 : decode prog_8_method_14_code 87 = .ok (.iload_n 3, 1) := by decide +kernel
theorem d_Ref_fits_88 : decode prog_8_method_14_code 88 = .ok (.sipush (-32768), 3) := by decide +kernel
theorem d_Ref_fits_91 : decode prog_8_method_14_code 91 = .ok (.if_icmp .lt 14, 3) := by decide +kernel
theorem d_Ref_fits_94 : decode prog_8_method_14_code 94 = .ok (.iload_n 3, 1) := by decide +kernel
theorem d_Ref_fits_95 : decode prog_8_method_14_code 95 = .ok (.sipush 32767, 3) := by decide +kernel
theorem d_Ref_fits_98 : decode prog_8_method_14_code 98 = .ok (.if_icmp .gt 7, 3) := by decide +kernel
theorem d_Ref_fits_101 : decode prog_8_method_14_code 101 = .ok (.iconst 1, 1) := by decide +kernel
theorem d_Ref_fits_102 : decode prog_8_method_14_code 102 = .ok (.goto 4, 3) := by decide +kernel
theorem d_Ref_fits_105 : decode prog_8_method_14_code 105 = .ok (.iconst 0, 1) := by decide +kernel
theorem d_Ref_fits_106 : decode prog_8_method_14_code 106 = .ok (.ireturn, 1) := by decide +kernel
theorem d_Ref_fits_107 : decode prog_8_method_14_code 107 = .ok (.iload_n 2, 1) := by decide +kernel
theorem d_Ref_fits_108 : decode prog_8_method_14_code 108 = .ok (.iconst 1, 1) := by decide +kernel
theorem d_Ref_fits_109 : decode prog_8_method_14_code 109 = .ok (.if_icmp .lt 13, 3) := by decide +kernel
theorem d_Ref_fits_112 : decode prog_8_method_14_code 112 = .ok (.iload_n 2, 1) := by decide +kernel
theorem d_Ref_fits_113 : decode prog_8_method_14_code 113 = .ok (.bipush 16, 2) := by decide +kernel
theorem d_Ref_fits_115 : decode prog_8_method_14_code 115 = .ok (.if_icmp .gt 7, 3) := by decide +kernel
theorem d_Ref_fits_118 : decode prog_8_method_14_code 118 = .ok (.iconst 1, 1) := by decide +kernel
theorem d_Ref_fits_119 : decode prog_8_method_14_code 119 = .ok (.goto 4, 3) := by decide +kernel
theorem d_Ref_fits_122 : decode prog_8_method_14_code 122 = .ok (.iconst 0, 1) := by decide +kernel
theorem d_Ref_fits_123 : decode prog_8_method_14_code 123 = .ok (.ireturn, 1) := by decide +kernel
theorem d_Ref_fits_124 : decode prog_8_method_14_code 124 = .ok (.aload_n 0, 1) := by decide +kernel
theorem d_Ref_fits_125 : decode prog_8_method_14_code 125 = .ok (.iload_n 2, 1) := by decide +kernel
theorem d_Ref_fits_126 : decode prog_8_method_14_code 126 = .ok (.invokevirtual 83, 3) := by decide +kernel
theorem d_Ref_fits_129 : decode prog_8_method_14_code 129 = .ok (.ifCond .eq 16, 3) := by decide +kernel
theorem d_Ref_fits_132 : decode prog_8_method_14_code 132 = .ok (.iload_n 3, 1) := by decide +kernel
theorem d_Ref_fits_133 : decode prog_8_method_14_code 133 = .ok (.ifCond .lt 12, 3) := by decide +kernel
theorem d_Ref_fits_136 : decode prog_8_method_14_code 136 = .ok (.iload_n 3, 1) := by decide +kernel
theorem d_Ref_fits_137 : decode prog_8_method_14_code 137 = .ok (.iconst 3, 1) := by decide +kernel
theorem d_Ref_fits_138 : decode prog_8_method_14_code 138 = .ok (.if_icmp .gt 7, 3) := by decide +kernel
theorem d_Ref_fits_141 : decode prog_8_method_14_code 141 = .ok (.iconst 1, 1) := by decide +kernel
theorem d_Ref_fits_142 : decode prog_8_method_14_code 142 = .ok (.goto 4, 3) := by decide +kernel
theorem d_Ref_fits_145 : decode prog_8_method_14_code 145 = .ok (.iconst 0, 1) := by decide +kernel
theorem d_Ref_fits_146 : decode prog_8_method_14_code 146 = .ok (.ireturn, 1) := by decide +kernel
theorem d_Ref_fits_147 : decode prog_8_method_14_code 147 = .ok (.aload_n 0, 1) := by decide +kernel
theorem d_Ref_fits_148 : decode prog_8_method_14_code 148 = .ok (.iload_n 2, 1) := by decide +kernel
theorem d_Ref_fits_149 : decode prog_8_method_14_code 149 = .ok (.invokevirtual 83, 3) := by decide +kernel
theorem d_Ref_fits_152 : decode prog_8_method_14_code 152 = .ok (.ifCond .eq 18, 3) := by decide +kernel
theorem d_Ref_fits_155 : decode prog_8_method_14_code 155 = .ok (.iload_n 3, 1) := by decide +kernel
theorem d_Ref_fits_156 : decode prog_8_method_14_code 156 = .ok (.iconst 1, 1) := by decide +kernel
theorem d_Ref_fits_157 : decode prog_8_method_14_code 157 = .ok (.if_icmp .lt 13, 3) := by decide +kernel
theorem d_Ref_fits_160 : decode prog_8_method_14_code 160 = .ok (.iload_n 3, 1) := by decide +kernel
theorem d_Ref_fits_161 : decode prog_8_method_14_code 161 = .ok (.bipush 16, 2) := by decide +kernel
theorem d_Ref_fits_163 : decode prog_8_method_14_code 163 = .ok (.if_icmp .gt 7, 3) := by decide +kernel
theorem d_Ref_fits_166 : decode prog_8_method_14_code 166 = .ok (.iconst 1, 1) := by decide +kernel
theorem d_Ref_fits_167 : decode prog_8_method_14_code 167 = .ok (.goto 4, 3) := by decide +kernel
theorem d_Ref_fits_170 : decode prog_8_method_14_code 170 = .ok (.iconst 0, 1) := by decide +kernel
theorem d_Ref_fits_171 : decode prog_8_method_14_code 171 = .ok (.ireturn, 1) := by decide +kernel
theorem d_Ref_fits_172 : decode prog_8_method_14_code 172 = .ok (.aload_n 0, 1) := by decide +kernel
theorem d_Ref_fits_173 : decode prog_8_method_14_code 173 = .ok (.iload_n 2, 1) := by decide +kernel
theorem d_Ref_fits_174 : decode prog_8_method_14_code 174 = .ok (.invokevirtual 83, 3) := by decide +kernel
theorem d_Ref_fits_177 : decode prog_8_method_14_code 177 = .ok (.ifCond .eq 15, 3) := by decide +kernel
theorem d_Ref_fits_180 : decode prog_8_method_14_code 180 = .ok (.aload_n 0, 1) := by decide +kernel
theorem d_Ref_fits_181 : decode prog_8_method_14_code 181 = .ok (.iload_n 3, 1) := by decide +kernel
theorem d_Ref_fits_182 : decode prog_8_method_14_code 182 = .ok (.invokevirtual 87, 3) := by decide +kernel
theorem d_Ref_fits_185 : decode prog_8_method_14_code 185 = .ok (.ifCond .eq 7, 3) := by decide +kernel
theorem d_Ref_fits_188 : decode prog_8_method_14_code 188 = .ok (.iconst 1, 1) := by decide +kernel
theorem d_Ref_fits_189 : decode prog_8_method_14_code 189 = .ok (.goto 4, 3) := by decide +kernel
theorem d_Ref_fits_192 : decode prog_8_method_14_code 192 = .ok (.iconst 0, 1) := by decide +kernel
theorem d_Ref_fits_193 : decode prog_8_method_14_code 193 = .ok (.ireturn, 1) := by decide +kernel
theorem d_Ref_fits_194 : decode prog_8_method_14_code 194 = .ok (.iconst 0, 1) := by decide +kernel
theorem d_Ref_fits_195 : decode prog_8_method_14_code 195 = .ok (.ireturn, 1) := by decide +kernel
theorem d_Ref_add_0 : decode prog_8_method_15_code 0 = .ok (.aload_n 0, 1) := by decide +kernel
theorem d_Ref_add_1 : decode prog_8_method_15_code 1 = .ok (.iload_n 1, 1) := by decide +kernel
theorem d_Ref_add_2 : decode prog_8_method_15_code 2 = .ok (.invokevirtual 90, 3) := by decide +kernel
theorem d_Ref_add_5 : decode prog_8_method_15_code 5 = .ok (.ifCond .eq 25, 3) := by decide +kernel
theorem d_Ref_add_8 : decode prog_8_method_15_code 8 = .ok (.aload_n 0, 1) := by decide +kernel
theorem d_Ref_add_9 : decode prog_8_method_15_code 9 = .ok (.getfield 7, 3) := by decide +kernel
theorem d_Ref_add_12 : decode prog_8_method_15_code 12 = .ok (.iload_n 1, 1) := by decide +kernel
theorem d_Ref_add_13 : decode prog_8_method_15_code 13 = .ok (.iaload, 1) := by decide +kernel
theorem d_Ref_add_14 : decode prog_8_method_15_code 14 = .ok (.bipush 20, 2) := by decide +kernel
theorem d_Ref_add_16 : decode prog_8_method_15_code 16 = .ok (.if_icmp .ge 14, 3) := by decide +kernel
theorem d_Ref_add_19 : decode prog_8_method_15_code 19 = .ok (.aload_n 0, 1) := by decide +kernel
theorem d_Ref_add_20 : decode prog_8_method_15_code 20 = .ok (.iload_n 2, 1) := by decide +kernel
theorem d_Ref_add_21 : decode prog_8_method_15_code 21 = .ok (.iload_n 3, 1) := by decide +kernel
theorem d_Ref_add_22 : decode prog_8_method_15_code 22 = .ok (.iload 4, 2) := by decide +kernel
theorem d_Ref_add_24 : decode prog_8_method_15_code 24 = .ok (.invokevirtual 93, 3) := by decide +kernel
theorem d_Ref_add_27 : decode prog_8_method_15_code 27 = .ok (.ifCond .ne 5, 3) := by decide +kernel
theorem d_Ref_add_30 : decode prog_8_method_15_code 30 = .ok (.iconst 0, 1) := by decide +kernel
theorem d_Ref_add_31 : decode prog_8_method_15_code 31 = .ok (.ireturn, 1) := by decide +kernel
theorem d_Ref_add_32 : decode prog_8_method_15_code 32 = .ok (.bipush 20, 2) := by decide +kernel
theorem d_Ref_add_34 : decode prog_8_method_15_code 34 = .ok (.iload_n 1, 1) := by decide +kernel
theorem d_Ref_add_35 : decode prog_8_method_15_code 35 = .ok (.imul, 1) := by decide +kernel
theorem d_Ref_add_36 : decode prog_8_method_15_code 36 = .ok (.aload_n 0, 1) := by decide +kernel
theorem d_Ref_add_37 : decode prog_8_method_15_code 37 = .ok (.getfield 7, 3) := by decide +kernel
theorem d_Ref_add_40 : decode prog_8_method_15_code 40 = .ok (.iload_n 1, 1) := by decide +kernel
theorem d_Ref_add_41 : decode prog_8_method_15_code 41 = .ok (.iaload, 1) := by decide +kernel
theorem d_Ref_add_42 : decode prog_8_method_15_code 42 = .ok (.iadd, 1) := by decide +kernel
theorem d_Ref_add_43 : decode prog_8_method_15_code 43 = .ok (.istore 5, 2) := by decide +kernel
theorem d_Ref_add_45 : decode prog_8_method_15_code 45 = .ok (.aload_n 0, 1) := by decide +kernel
theorem d_Ref_add_46 : decode prog_8_method_15_code 46 = .ok (.getfield 7, 3) := by decide +kernel
theorem d_Ref_add_49 : decode prog_8_method_15_code 49 = .ok (.iload_n 1, 1) := by decide +kernel
theorem d_Ref_add_50 : decode prog_8_method_15_code 50 = .ok (.iaload, 1) := by decide +kernel
theorem d_Ref_add_51 : decode prog_8_method_15_code 51 = .ok (.ifCond .ne 7, 3) := by decide +kernel
theorem d_Ref_add_54 : decode prog_8_method_15_code 54 = .ok (.iconst 0, 1) := by decide +kernel
theorem d_Ref_add_55 : decode prog_8_method_15_code 55 = .ok (.goto 12, 3) := by decide +kernel
theorem d_Ref_add_58 : decode prog_8_method_15_code 58 = .ok (.aload_n 0, 1) := by decide +kernel
theorem d_Ref_add_59 : decode prog_8_method_15_code 59 = .ok (.getfield 22, 3) := by decide +kernel
theorem d_Ref_add_62 : decode prog_8_method_15_code 62 = .ok (.iload 5, 2) := by decide +kernel
theorem d_Ref_add_64 : decode prog_8_method_15_code 64 = .ok (.iconst 1, 1) := by decide +kernel
theorem d_Ref_add_65 : decode prog_8_method_15_code 65 = .ok (.isub, 1) := by decide +kernel
theorem d_Ref_add_66 : decode prog_8_method_15_code 66 = .ok (.iaload, 1) := by decide +kernel
theorem d_Ref_add_67 : decode prog_8_method_15_code 67 = .ok (.istore 6, 2) := by decide +kernel
theorem d_Ref_add_69 : decode prog_8_method_15_code 69 = .ok (.iload_n 2, 1) := by decide +kernel
theorem d_Ref_add_70 : decode prog_8_method_15_code 70 = .ok (.ifCond .eq 15, 3) := by decide +kernel
theorem d_Ref_add_73 : decode prog_8_method_15_code 73 = .ok (.iload_n 2, 1) := by decide +kernel
theorem d_Ref_add_74 : decode prog_8_method_15_code 74 = .ok (.bipush 7, 2) := by decide +kernel
theorem d_Ref_add_76 : decode prog_8_method_15_code 76 = .ok (.if_icmp .eq 9, 3) := by decide +kernel
theorem d_Ref_add_79 : decode prog_8_method_15_code 79 = .ok (.iload_n 2, 1) := by decide +kernel
theorem d_Ref_add_80 : decode prog_8_method_15_code 80 = .ok (.bipush 8, 2) := by decide +kernel
theorem d_Ref_add_82 : decode prog_8_method_15_code 82 = .ok (.if_icmp .ne 7, 3) := by decide +kernel
theorem d_Ref_add_85 : decode prog_8_method_15_code 85 = .ok (.iconst 1, 1) := by decide +kernel
theorem d_Ref_add_86 : decode prog_8_method_15_code 86 = .ok (.goto 4, 3) := by decide +kernel
theorem d_Ref_add_89 : decode prog_8_method_15_code 89 = .ok (.iconst 0, 1) := by decide +kernel
theorem d_Ref_add_90 : decode prog_8_method_15_code 90 = .ok (.istore 7, 2) := by decide +kernel
theorem d_Ref_add_92 : decode prog_8_method_15_code 92 = .ok (.iload 7, 2) := by decide +kernel
theorem d_Ref_add_94 : decode prog_8_method_15_code 94 = .ok (.ifCond .eq 23, 3) := by decide +kernel
theorem d_Ref_add_97 : decode prog_8_method_15_code 97 = .ok (.aload_n 0, 1) := by decide +kernel
theorem d_Ref_add_98 : decode prog_8_method_15_code 98 = .ok (.iload_n 1, 1) := by decide +kernel
theorem d_Ref_add_99 : decode prog_8_method_15_code 99 = .ok (.iload_n 3, 1) := by decide +kernel
theorem d_Ref_add_100 : decode prog_8_method_15_code 100 = .ok (.invokevirtual 69, 3) := by decide +kernel
theorem d_Ref_add_103 : decode prog_8_method_15_code 103 = .ok (.ifCond .ge 12, 3) := by decide +kernel
theorem d_Ref_add_106 : decode prog_8_method_15_code 106 = .ok (.aload_n 0, 1) := by decide +kernel
theorem d_Ref_add_107 : decode prog_8_method_15_code 107 = .ok (.iload_n 1, 1) := by decide +kernel
theorem d_Ref_add_108 : decode prog_8_method_15_code 108 = .ok (.iload_n 3, 1) := by decide +kernel
theorem d_Ref_add_109 : decode prog_8_method_15_code 109 = .ok (.invokevirtual 73, 3) := by decide +kernel
theorem d_Ref_add_112 : decode prog_8_method_15_code 112 = .ok (.ifCond .le 5, 3) := by decide +kernel
theorem d_Ref_add_115 : decode prog_8_method_15_code 115 = .ok (.iconst 0, 1) := by decide +kernel
theorem d_Ref_add_116 : decode prog_8_method_15_code 116 = .ok (.ireturn, 1) := by decide +kernel
theorem d_Ref_add_117 : decode prog_8_method_15_code 117 = .ok (.iload_n 2, 1) := by decide +kernel
theorem d_Ref_add_118 : decode prog_8_method_15_code 118 = .ok (.iconst 3, 1) := by decide +kernel
theorem d_Ref_add_119 : decode prog_8_method_15_code 119 = .ok (.if_icmp .eq 8, 3) := by decide +kernel
theorem d_Ref_add_122 : decode prog_8_method_15_code 122 = .ok (.iload_n 2, 1) := by decide +kernel
theorem d_Ref_add_123 : decode prog_8_method_15_code 123 = .ok (.iconst 4, 1) := by decide +kernel
theorem d_Ref_add_124 : decode prog_8_method_15_code 124 = .ok (.if_icmp .ne 9, 3) := by decide +kernel
theorem d_Ref_add_127 : decode prog_8_method_15_code 127 = .ok (.iload 6, 2) := by decide +kernel
theorem d_Ref_add_129 : decode prog_8_method_15_code 129 = .ok (.iconst 2, 1) := by decide +kernel
theorem d_Ref_add_130 : decode prog_8_method_15_code 130 = .ok (.if_icmp .eq 14, 3) := by decide +kernel
theorem d_Ref_add_133 : decode prog_8_method_15_code 133 = .ok (.iload_n 2, 1) := by decide +kernel
theorem d_Ref_add_134 : decode prog_8_method_15_code 134 = .ok (.bipush 6, 2) := by decide +kernel
theorem d_Ref_add_136 : decode prog_8_method_15_code 136 = .ok (.if_icmp .ne 10, 3) := by decide +kernel
theorem d_Ref_add_139 : decode prog_8_method_15_code 139 = .ok (.iload 6, 2) := by decide +kernel
theorem d_Ref_add_141 : decode prog_8_method_15_code 141 = .ok (.ifCond .eq 5, 3) := by decide +kernel
theorem d_Ref_add_144 : decode prog_8_method_15_code 144 = .ok (.iconst 0, 1) := by decide +kernel
theorem d_Ref_add_145 : decode prog_8_method_15_code 145 = .ok (.ireturn, 1) := by decide +kernel
theorem d_Ref_add_146 : decode prog_8_method_15_code 146 = .ok (.aload_n 0, 1) := by decide +kernel
theorem d_Ref_add_147 : decode prog_8_method_15_code 147 = .ok (.getfield 13, 3) := by decide +kernel
theorem d_Ref_add_150 : decode prog_8_method_15_code 150 = .ok (.iload 5, 2) := by decide +kernel
theorem d_Ref_add_152 : decode prog_8_method_15_code 152 = .ok (.iload_n 2, 1) := by decide +kernel
theorem d_Ref_add_153 : decode prog_8_method_15_code 153 = .ok (.iastore, 1) := by decide +kernel
theorem d_Ref_add_154 : decode prog_8_method_15_code 154 = .ok (.aload_n 0, 1) := by decide +kernel
theorem d_Ref_add_155 : decode prog_8_method_15_code 155 = .ok (.getfield 16, 3) := by decide +kernel
theorem d_Ref_add_158 : decode prog_8_method_15_code 158 = .ok (.iload 5, 2) := by decide +kernel
theorem d_Ref_add_160 : decode prog_8_method_15_code 160 = .ok (.iload_n 3, 1) := by decide +kernel
theorem d_Ref_add_161 : decode prog_8_method_15_code 161 = .ok (.iastore, 1) := by decide +kernel
theorem d_Ref_add_162 : decode prog_8_method_15_code 162 = .ok (.aload_n 0, 1) := by decide +kernel
theorem d_Ref_add_163 : decode prog_8_method_15_code 163 = .ok (.getfield 19, 3) := by decide +kernel
theorem d_Ref_add_166 : decode prog_8_method_15_code 166 = .ok (.iload 5, 2) := by decide +kernel
theorem d_Ref_add_168 : decode prog_8_method_15_code 168 = .ok (.iload 4, 2) := by decide +kernel
theorem d_Ref_add_170 : decode prog_8_method_15_code 170 = .ok (.iastore, 1) := by decide +kernel
theorem d_Ref_add_171 : decode prog_8_method_15_code 171 = .ok (.aload_n 0, 1) := by decide +kernel
theorem d_Ref_add_172 : decode prog_8_method_15_code 172 = .ok (.getfield 22, 3) := by decide +kernel
theorem d_Ref_add_175 : decode prog_8_method_15_code 175 = .ok (.iload 5, 2) := by decide +kernel
theorem d_Ref_add_177 : decode prog_8_method_15_code 177 = .ok (.iload_n 2, 1) := by decide +kernel
theorem d_Ref_add_178 : decode prog_8_method_15_code 178 = .ok (.iconst 2, 1) := by decide +kernel
theorem d_Ref_add_179 : decode prog_8_method_15_code 179 = .ok (.if_icmp .ne 7, 3) := by decide +kernel
theorem d_Ref_add_182 : decode prog_8_method_15_code 182 = .ok (.iload_n 3, 1) := by decide +kernel
theorem d_Ref_add_183 : decode prog_8_method_15_code 183 = .ok (.goto 5, 3) := by decide +kernel
theorem d_Ref_add_186 : decode prog_8_method_15_code 186 = .ok (.iload 6, 2) := by decide +kernel
theorem d_Ref_add_188 : decode prog_8_method_15_code 188 = .ok (.iastore, 1) := by decide +kernel
theorem d_Ref_add_189 : decode prog_8_method_15_code 189 = .ok (.aload_n 0, 1) := by decide +kernel
theorem d_Ref_add_190 : decode prog_8_method_15_code 190 = .ok (.getfield 7, 3) := by decide +kernel
theorem d_Ref_add_193 : decode prog_8_method_15_code 193 = .ok (.iload_n 1, 1) := by decide +kernel
theorem d_Ref_add_194 : decode prog_8_method_15_code 194 = .ok (.aload_n 0, 1) := by decide +kernel
theorem d_Ref_add_195 : decode prog_8_method_15_code 195 = .ok (.getfield 7, 3) := by decide +kernel
theorem d_Ref_add_198 : decode prog_8_method_15_code 198 = .ok (.iload_n 1, 1) := by decide +kernel
theorem d_Ref_add_199 : decode prog_8_method_15_code 199 = .ok (.iaload, 1) := by decide +kernel
theorem d_Ref_add_200 : decode prog_8_method_15_code 200 = .ok (.iconst 1, 1) := by decide +kernel
theorem d_Ref_add_201 : decode prog_8_method_15_code 201 = .ok (.iadd, 1) := by decide +kernel
theorem d_Ref_add_202 : decode prog_8_method_15_code 202 = .ok (.iastore, 1) := by decide +kernel
theorem d_Ref_add_203 : decode prog_8_method_15_code 203 = .ok (.aload_n 0, 1) := by decide +kernel
theorem d_Ref_add_204 : decode prog_8_method_15_code 204 = .ok (.iload_n 1, 1) := by decide +kernel
theorem d_Ref_add_205 : decode prog_8_method_15_code 205 = .ok (.invokevirtual 97, 3) := by decide +kernel
theorem d_Ref_add_208 : decode prog_8_method_15_code 208 = .ok (.iconst 1, 1) := by decide +kernel
theorem d_Ref_add_209 : decode prog_8_method_15_code 209 = .ok (.ireturn, 1) := by decide +kernel
theorem d_Ref_clear_0 : decode prog_8_method_16_code 0 = .ok (.aload_n 0, 1) := by decide +kernel
theorem d_Ref_clear_1 : decode prog_8_method_16_code 1 = .ok (.iload_n 1, 1) := by decide +kernel
theorem d_Ref_clear_2 : decode prog_8_method_16_code 2 = .ok (.invokevirtual 90, 3) := by decide +kernel
theorem d_Ref_clear_5 : decode prog_8_method_16_code 5 = .ok (.ifCond .ne 5, 3) := by decide +kernel
theorem d_Ref_clear_8 : decode prog_8_method_16_code 8 = .ok (.iconst (-1), 1) := by decide +kernel
theorem d_Ref_clear_9 : decode prog_8_method_16_code 9 = .ok (.ireturn, 1) := by decide +kernel
theorem d_Ref_clear_10 : decode prog_8_method_16_code 10 = .ok (.aload_n 0, 1) := by decide +kernel
theorem d_Ref_clear_11 : decode prog_8_method_16_code 11 = .ok (.getfield 7, 3) := by decide +kernel
theorem d_Ref_clear_14 : decode prog_8_method_16_code 14 = .ok (.iload_n 1, 1) := by decide +kernel
theorem d_Ref_clear_15 : decode prog_8_method_16_code 15 = .ok (.iaload, 1) := by decide +kernel
theorem d_Ref_clear_16 : decode prog_8_method_16_code 16 = .ok (.istore_n 2, 1) := by decide +kernel
theorem d_Ref_clear_17 : decode prog_8_method_16_code 17 = .ok (.aload_n 0, 1) := by decide +kernel
theorem d_Ref_clear_18 : decode prog_8_method_16_code 18 = .ok (.getfield 7, 3) := by decide +kernel
theorem d_Ref_clear_21 : decode prog_8_method_16_code 21 = .ok (.iload_n 1, 1) := by decide +kernel
theorem d_Ref_clear_22 : decode prog_8_method_16_code 22 = .ok (.iconst 0, 1) := by decide +kernel
theorem d_Ref_clear_23 : decode prog_8_method_16_code 23 = .ok (.iastore, 1) := by decide +kernel
theorem d_Ref_clear_24 : decode prog_8_method_16_code 24 = .ok (.iload_n 2, 1) := by decide +kernel
theorem d_Ref_clear_25 : decode prog_8_method_16_code 25 = .ok (.ireturn, 1) := by decide +kernel
theorem d_Ref_length_0 : decode prog_8_method_17_code 0 = .ok (.aload_n 0, 1) := by decide +kernel
theorem d_Ref_length_1 : decode prog_8_method_17_code 1 = .ok (.iload_n 1, 1) := by decide +kernel
theorem d_Ref_length_2 : decode prog_8_method_17_code 2 = .ok (.invokevirtual 90, 3) := by decide +kernel
theorem d_Ref_length_5 : decode prog_8_method_17_code 5 = .ok (.ifCond .eq 12, 3) := by decide +kernel
theorem d_Ref_length_8 : decode prog_8_method_17_code 8 = .ok (.iload_n 2, 1) := by decide +kernel
theorem d_Ref_length_9 : decode prog_8_method_17_code 9 = .ok (.ifCond .lt 8, 3) := by decide +kernel
theorem d_Ref_length_12 : decode prog_8_method_17_code 12 = .ok (.iload_n 2, 1) := by decide +kernel
theorem d_Ref_length_13 : decode prog_8_method_17_code 13 = .ok (.iconst 2, 1) := by decide +kernel
theorem d_Ref_length_14 : decode prog_8_method_17_code 14 = .ok (.if_icmp .le 5, 3) := by decide +kernel
theorem d_Ref_length_17 : decode prog_8_method_17_code 17 = .ok (.iconst (-1), 1) := by decide +kernel
theorem d_Ref_length_18 : decode prog_8_method_17_code 18 = .ok (.ireturn, 1) := by decide +kernel
theorem d_Ref_length_19 : decode prog_8_method_17_code 19 = .ok (.aload_n 0, 1) := by decide +kernel
theorem d_Ref_length_20 : decode prog_8_method_17_code 20 = .ok (.iload_n 1, 1) := by decide +kernel
theorem d_Ref_length_21 : decode prog_8_method_17_code 21 = .ok (.bipush 20, 2) := by decide +kernel
theorem d_Ref_length_23 : decode prog_8_method_17_code 23 = .ok (.iload_n 1, 1) := by decide +kernel
theorem d_Ref_length_24 : decode prog_8_method_17_code 24 = .ok (.imul, 1) := by decide +kernel
theorem d_Ref_length_25 : decode prog_8_method_17_code 25 = .ok (.aload_n 0, 1) := by decide +kernel
theorem d_Ref_length_26 : decode prog_8_method_17_code 26 = .ok (.getfield 7, 3) := by decide +kernel
theorem d_Ref_length_29 : decode prog_8_method_17_code 29 = .ok (.iload_n 1, 1) := by decide +kernel
theorem d_Ref_length_30 : decode prog_8_method_17_code 30 = .ok (.iaload, 1) := by decide +kernel
theorem d_Ref_length_31 : decode prog_8_method_17_code 31 = .ok (.iadd, 1) := by decide +kernel
theorem d_Ref_length_32 : decode prog_8_method_17_code 32 = .ok (.iload_n 2, 1) := by decide +kernel
theorem d_Ref_length_33 : decode prog_8_method_17_code 33 = .ok (.invokevirtual 76, 3) := by decide +kernel
theorem d_Ref_length_36 : decode prog_8_method_17_code 36 = .ok (.ireturn, 1) := by decide +kernel
theorem d_Ref_isLong_0 : decode prog_8_method_18_code 0 = .ok (.aload_n 0, 1) := by decide +kernel
theorem d_Ref_isLong_1 : decode prog_8_method_18_code 1 = .ok (.iload_n 1, 1) := by decide +kernel
theorem d_Ref_isLong_2 : decode prog_8_method_18_code 2 = .ok (.invokevirtual 90, 3) := by decide +kernel
theorem d_Ref_isLong_5 : decode prog_8_method_18_code 5 = .ok (.ifCond .eq 51, 3) := by decide +kernel
theorem d_Ref_isLong_8 : decode prog_8_method_18_code 8 = .ok (.iload_n 2, 1) := by decide +kernel
theorem d_Ref_isLong_9 : decode prog_8_method_18_code 9 = .ok (.ifCond .lt 47, 3) := by decide +kernel
theorem d_Ref_isLong_12 : decode prog_8_method_18_code 12 = .ok (.iload_n 2, 1) := by decide +kernel
theorem d_Ref_isLong_13 : decode prog_8_method_18_code 13 = .ok (.aload_n 0, 1) := by decide +kernel
theorem d_Ref_isLong_14 : decode prog_8_method_18_code 14 = .ok (.getfield 7, 3) := by decide +kernel
theorem d_Ref_isLong_17 : decode prog_8_method_18_code 17 = .ok (.iload_n 1, 1) := by decide +kernel
theorem d_Ref_isLong_18 : decode prog_8_method_18_code 18 = .ok (.iaload, 1) := by decide +kernel
theorem d_Ref_isLong_19 : decode prog_8_method_18_code 19 = .ok (.if_icmp .ge 37, 3) := by decide +kernel
theorem d_Ref_isLong_22 : decode prog_8_method_18_code 22 = .ok (.aload_n 0, 1) := by decide +kernel
theorem d_Ref_isLong_23 : decode prog_8_method_18_code 23 = .ok (.getfield 13, 3) := by decide +kernel
theorem d_Ref_isLong_26 : decode prog_8_method_18_code 26 = .ok (.bipush 20, 2) := by decide +kernel
theorem d_Ref_isLong_28 : decode prog_8_method_18_code 28 = .ok (.iload_n 1, 1) := by decide +kernel
theorem d_Ref_isLong_29 : decode prog_8_method_18_code 29 = .ok (.imul, 1) := by decide +kernel
theorem d_Ref_isLong_30 : decode prog_8_method_18_code 30 = .ok (.iload_n 2, 1) := by decide +kernel
theorem d_Ref_isLong_31 : decode prog_8_method_18_code 31 = .ok (.iadd, 1) := by decide +kernel
theorem d_Ref_isLong_32 : decode prog_8_method_18_code 32 = .ok (.iaload, 1) := by decide +kernel
theorem d_Ref_isLong_33 : decode prog_8_method_18_code 33 = .ok (.bipush 6, 2) := by decide +kernel
theorem d_Ref_isLong_35 : decode prog_8_method_18_code 35 = .ok (.if_icmp .ne 21, 3) := by decide +kernel
theorem d_Ref_isLong_38 : decode prog_8_method_18_code 38 = .ok (.aload_n 0, 1) := by decide +kernel
theorem d_Ref_isLong_39 : decode prog_8_method_18_code 39 = .ok (.getfield 25, 3) := by decide +kernel
theorem d_Ref_isLong_42 : decode prog_8_method_18_code 42 = .ok (.bipush 20, 2) := by decide +kernel
theorem d_Ref_isLong_44 : decode prog_8_method_18_code 44 = .ok (.iload_n 1, 1) := by decide +kernel
theorem d_Ref_isLong_45 : decode prog_8_method_18_code 45 = .ok (.imul, 1) := by decide +kernel
theorem d_Ref_isLong_46 : decode prog_8_method_18_code 46 = .ok (.iload_n 2, 1) := by decide +kernel
theorem d_Ref_isLong_47 : decode prog_8_method_18_code 47 = .ok (.iadd, 1) := by decide +kernel
theorem d_Ref_isLong_48 : decode prog_8_method_18_code 48 = .ok (.baload, 1) := by decide +kernel
theorem d_Ref_isLong_49 : decode prog_8_method_18_code 49 = .ok (.ifCond .eq 7, 3) := by decide +kernel
theorem d_Ref_isLong_52 : decode prog_8_method_18_code 52 = .ok (.iconst 1, 1) := by decide +kernel
theorem d_Ref_isLong_53 : decode prog_8_method_18_code 53 = .ok (.goto 4, 3) := by decide +kernel
theorem d_Ref_isLong_56 : decode prog_8_method_18_code 56 = .ok (.iconst 0, 1) := by decide +kernel
theorem d_Ref_isLong_57 : decode prog_8_method_18_code 57 = .ok (.ireturn, 1) := by decide +kernel
theorem d_Ref_inArchive_0 : decode prog_8_method_19_code 0 = .ok (.iconst 0, 1) := by decide +kernel
theorem d_Ref_inArchive_1 : decode prog_8_method_19_code 1 = .ok (.istore_n 2, 1) := by decide +kernel
theorem d_Ref_inArchive_2 : decode prog_8_method_19_code 2 = .ok (.iload_n 2, 1) := by decide +kernel
theorem d_Ref_inArchive_3 : decode prog_8_method_19_code 3 = .ok (.aload_n 0, 1) := by decide +kernel
theorem d_Ref_inArchive_4 : decode prog_8_method_19_code 4 = .ok (.getfield 101, 3) := by decide +kernel
theorem d_Ref_inArchive_7 : decode prog_8_method_19_code 7 = .ok (.if_icmp .ge 21, 3) := by decide +kernel
theorem d_Ref_inArchive_10 : decode prog_8_method_19_code 10 = .ok (.aload_n 0, 1) := by decide +kernel
theorem d_Ref_inArchive_11 : decode prog_8_method_19_code 11 = .ok (.getfield 29, 3) := by decide +kernel
theorem d_Ref_inArchive_14 : decode prog_8_method_19_code 14 = .ok (.iload_n 2, 1) := by decide +kernel
theorem d_Ref_inArchive_15 : decode prog_8_method_19_code 15 = .ok (.iaload, 1) := by decide +kernel
theorem d_Ref_inArchive_16 : decode prog_8_method_19_code 16 = .ok (.iload_n 1, 1) := by decide +kernel
theorem d_Ref_inArchive_17 : decode prog_8_method_19_code 17 = .ok (.if_icmp .ne 5, 3) := by decide +kernel
theorem d_Ref_inArchive_20 : decode prog_8_method_19_code 20 = .ok (.iload_n 2, 1) := by decide +kernel
theorem d_Ref_inArchive_21 : decode prog_8_method_19_code 21 = .ok (.ireturn, 1) := by decide +kernel
theorem d_Ref_inArchive_22 : decode prog_8_method_19_code 22 = .ok (.iinc 2 1, 3) := by decide +kernel
theorem d_Ref_inArchive_25 : decode prog_8_method_19_code 25 = .ok (.goto (-23), 3) := by decide +kernel
theorem d_Ref_inArchive_28 : decode prog_8_method_19_code 28 = .ok (.iconst (-1), 1) := by decide +kernel
theorem d_Ref_inArchive_29 : decode prog_8_method_19_code 29 = .ok (.ireturn, 1) := by decide +kernel
theorem d_Ref_onLine_0 : decode prog_8_method_20_code 0 = .ok (.iconst 0, 1) := by decide +kernel
theorem d_Ref_onLine_1 : decode prog_8_method_20_code 1 = .ok (.istore_n 2, 1) := by decide +kernel
theorem d_Ref_onLine_2 : decode prog_8_method_20_code 2 = .ok (.iconst 0, 1) := by decide +kernel
theorem d_Ref_onLine_3 : decode prog_8_method_20_code 3 = .ok (.istore_n 3, 1) := by decide +kernel
theorem d_Ref_onLine_4 : decode prog_8_method_20_code 4 = .ok (.iload_n 3, 1) := by decide +kernel
theorem d_Ref_onLine_5 : decode prog_8_method_20_code 5 = .ok (.aload_n 0, 1) := by decide +kernel
theorem d_Ref_onLine_6 : decode prog_8_method_20_code 6 = .ok (.getfield 104, 3) := by decide +kernel
theorem d_Ref_onLine_9 : decode prog_8_method_20_code 9 = .ok (.if_icmp .ge 29, 3) := by decide +kernel
theorem d_Ref_onLine_12 : decode prog_8_method_20_code 12 = .ok (.iload_n 2, 1) := by decide +kernel
theorem d_Ref_onLine_13 : decode prog_8_method_20_code 13 = .ok (.ifCond .ne 13, 3) := by decide +kernel
theorem d_Ref_onLine_16 : decode prog_8_method_20_code 16 = .ok (.aload_n 0, 1) := by decide +kernel
theorem d_Ref_onLine_17 : decode prog_8_method_20_code 17 = .ok (.getfield 32, 3) := by decide +kernel
theorem d_Ref_onLine_20 : decode prog_8_method_20_code 20 = .ok (.iload_n 3, 1) := by decide +kernel
theorem d_Ref_onLine_21 : decode prog_8_method_20_code 21 = .ok (.iaload, 1) := by decide +kernel
theorem d_Ref_onLine_22 : decode prog_8_method_20_code 22 = .ok (.iload_n 1, 1) := by decide +kernel
theorem d_Ref_onLine_23 : decode prog_8_method_20_code 23 = .ok (.if_icmp .ne 7, 3) := by decide +kernel
theorem d_Ref_onLine_26 : decode prog_8_method_20_code 26 = .ok (.iconst 1, 1) := by decide +kernel
theorem d_Ref_onLine_27 : decode prog_8_method_20_code 27 = .ok (.goto 4, 3) := by decide +kernel
theorem d_Ref_onLine_30 : decode prog_8_method_20_code 30 = .ok (.iconst 0, 1) := by decide +kernel
theorem d_Ref_onLine_31 : decode prog_8_method_20_code 31 = .ok (.istore_n 2, 1) := by decide +kernel
theorem d_Ref_onLine_32 : decode prog_8_method_20_code 32 = .ok (.iinc 3 1, 3) := by decide +kernel
theorem d_Ref_onLine_35 : decode prog_8_method_20_code 35 = .ok (.goto (-31), 3) := by decide +kernel
theorem d_Ref_onLine_38 : decode prog_8_method_20_code 38 = .ok (.iload_n 2, 1) := by decide +kernel
theorem d_Ref_onLine_39 : decode prog_8_method_20_code 39 = .ok (.ireturn, 1) := by decide +kernel
theorem d_Ref_store_0 : decode prog_8_method_21_code 0 = .ok (.aload_n 0, 1) := by decide +kernel
theorem d_Ref_store_1 : decode prog_8_method_21_code 1 = .ok (.iload_n 1, 1) := by decide +kernel
theorem d_Ref_store_2 : decode prog_8_method_21_code 2 = .ok (.invokevirtual 90, 3) := by decide +kernel
theorem d_Ref_store_5 : decode prog_8_method_21_code 5 = .ok (.ifCond .eq 29, 3) := by decide +kernel
theorem d_Ref_store_8 : decode prog_8_method_21_code 8 = .ok (.aload_n 0, 1) := by decide +kernel
theorem d_Ref_store_9 : decode prog_8_method_21_code 9 = .ok (.iload_n 1, 1) := by decide +kernel
theorem d_Ref_store_10 : decode prog_8_method_21_code 10 = .ok (.invokevirtual 107, 3) := by decide +kernel
theorem d_Ref_store_13 : decode prog_8_method_21_code 13 = .ok (.ifCond .ne 21, 3) := by decide +kernel
theorem d_Ref_store_16 : decode prog_8_method_21_code 16 = .ok (.iload_n 2, 1) := by decide +kernel
theorem d_Ref_store_17 : decode prog_8_method_21_code 17 = .ok (.iload_n 1, 1) := by decide +kernel
theorem d_Ref_store_18 : decode prog_8_method_21_code 18 = .ok (.if_icmp .eq 16, 3) := by decide +kernel
theorem d_Ref_store_21 : decode prog_8_method_21_code 21 = .ok (.iload_n 2, 1) := by decide +kernel
theorem d_Ref_store_22 : decode prog_8_method_21_code 22 = .ok (.iconst (-1), 1) := by decide +kernel
theorem d_Ref_store_23 : decode prog_8_method_21_code 23 = .ok (.if_icmp .eq 13, 3) := by decide +kernel
theorem d_Ref_store_26 : decode prog_8_method_21_code 26 = .ok (.aload_n 0, 1) := by decide +kernel
theorem d_Ref_store_27 : decode prog_8_method_21_code 27 = .ok (.iload_n 2, 1) := by decide +kernel
theorem d_Ref_store_28 : decode prog_8_method_21_code 28 = .ok (.invokevirtual 110, 3) := by decide +kernel
theorem d_Ref_store_31 : decode prog_8_method_21_code 31 = .ok (.ifCond .ge 5, 3) := by decide +kernel
theorem d_Ref_store_34 : decode prog_8_method_21_code 34 = .ok (.iconst 0, 1) := by decide +kernel
theorem d_Ref_store_35 : decode prog_8_method_21_code 35 = .ok (.ireturn, 1) := by decide +kernel
theorem d_Ref_store_36 : decode prog_8_method_21_code 36 = .ok (.aload_n 0, 1) := by decide +kernel
theorem d_Ref_store_37 : decode prog_8_method_21_code 37 = .ok (.iload_n 1, 1) := by decide +kernel
theorem d_Ref_store_38 : decode prog_8_method_21_code 38 = .ok (.invokevirtual 113, 3) := by decide +kernel
theorem d_Ref_store_41 : decode prog_8_method_21_code 41 = .ok (.pop, 1) := by decide +kernel
theorem d_Ref_store_42 : decode prog_8_method_21_code 42 = .ok (.iload_n 2, 1) := by decide +kernel
theorem d_Ref_store_43 : decode prog_8_method_21_code 43 = .ok (.iconst (-1), 1) := by decide +kernel
theorem d_Ref_store_44 : decode prog_8_method_21_code 44 = .ok (.if_icmp .ne 10, 3) := by decide +kernel
theorem d_Ref_store_47 : decode prog_8_method_21_code 47 = .ok (.aload_n 0, 1) := by decide +kernel
theorem d_Ref_store_48 : decode prog_8_method_21_code 48 = .ok (.getfield 101, 3) := by decide +kernel
theorem d_Ref_store_51 : decode prog_8_method_21_code 51 = .ok (.goto 8, 3) := by decide +kernel
theorem d_Ref_store_54 : decode prog_8_method_21_code 54 = .ok (.aload_n 0, 1) := by decide +kernel
theorem d_Ref_store_55 : decode prog_8_method_21_code 55 = .ok (.iload_n 2, 1) := by decide +kernel
theorem d_Ref_store_56 : decode prog_8_method_21_code 56 = .ok (.invokevirtual 110, 3) := by decide +kernel
theorem d_Ref_store_59 : decode prog_8_method_21_code 59 = .ok (.istore_n 3, 1) := by decide +kernel
theorem d_Ref_store_60 : decode prog_8_method_21_code 60 = .ok (.aload_n 0, 1) := by decide +kernel
theorem d_Ref_store_61 : decode prog_8_method_21_code 61 = .ok (.getfield 101, 3) := by decide +kernel
theorem d_Ref_store_64 : decode prog_8_method_21_code 64 = .ok (.istore 4, 2) := by decide +kernel
theorem d_Ref_store_66 : decode prog_8_method_21_code 66 = .ok (.iload 4, 2) := by decide +kernel
theorem d_Ref_store_68 : decode prog_8_method_21_code 68 = .ok (.iload_n 3, 1) := by decide +kernel
theorem d_Ref_store_69 : decode prog_8_method_21_code 69 = .ok (.if_icmp .le 25, 3) := by decide +kernel
theorem d_Ref_store_72 : decode prog_8_method_21_code 72 = .ok (.aload_n 0, 1) := by decide +kernel
theorem d_Ref_store_73 : decode prog_8_method_21_code 73 = .ok (.getfield 29, 3) := by decide +kernel
theorem d_Ref_store_76 : decode prog_8_method_21_code 76 = .ok (.iload 4, 2) := by decide +kernel
theorem d_Ref_store_78 : decode prog_8_method_21_code 78 = .ok (.aload_n 0, 1) := by decide +kernel
theorem d_Ref_store_79 : decode prog_8_method_21_code 79 = .ok (.getfield 29, 3) := by decide +kernel
theorem d_Ref_store_82 : decode prog_8_method_21_code 82 = .ok (.iload 4, 2) := by decide +kernel
theorem d_Ref_store_84 : decode prog_8_method_21_code 84 = .ok (.iconst 1, 1) := by decide +kernel
theorem d_Ref_store_85 : decode prog_8_method_21_code 85 = .ok (.isub, 1) := by decide +kernel
theorem d_Ref_store_86 : decode prog_8_method_21_code 86 = .ok (.iaload, 1) := by decide +kernel
theorem d_Ref_store_87 : decode prog_8_method_21_code 87 = .ok (.iastore, 1) := by decide +kernel
theorem d_Ref_store_88 : decode prog_8_method_21_code 88 = .ok (.iinc 4 (-1), 3) := by decide +kernel
theorem d_Ref_store_91 : decode prog_8_method_21_code 91 = .ok (.goto (-25), 3) := by decide +kernel
theorem d_Ref_store_94 : decode prog_8_method_21_code 94 = .ok (.aload_n 0, 1) := by decide +kernel
theorem d_Ref_store_95 : decode prog_8_method_21_code 95 = .ok (.getfield 29, 3) := by decide +kernel
theorem d_Ref_store_98 : decode prog_8_method_21_code 98 = .ok (.iload_n 3, 1) := by decide +kernel
theorem d_Ref_store_99 : decode prog_8_method_21_code 99 = .ok (.iload_n 1, 1) := by decide +kernel
theorem d_Ref_store_100 : decode prog_8_method_21_code 100 = .ok (.iastore, 1) := by decide +kernel
theorem d_Ref_store_101 : decode prog_8_method_21_code 101 = .ok (.aload_n 0, 1) := by decide +kernel
theorem d_Ref_store_102 : decode prog_8_method_21_code 102 = .ok (.dup, 1) := by decide +kernel
theorem d_Ref_store_103 : decode prog_8_method_21_code 103 = .ok (.getfield 101, 3) := by decide +kernel
theorem d_Ref_store_106 : decode prog_8_method_21_code 106 = .ok (.iconst 1, 1) := by decide +kernel
theorem d_Ref_store_107 : decode prog_8_method_21_code 107 = .ok (.iadd, 1) := by decide +kernel
theorem d_Ref_store_108 : decode prog_8_method_21_code 108 = .ok (.putfield 101, 3) := by decide +kernel
theorem d_Ref_store_111 : decode prog_8_method_21_code 111 = .ok (.iconst 1, 1) := by decide +kernel
theorem d_Ref_store_112 : decode prog_8_method_21_code 112 = .ok (.ireturn, 1) := by decide +kernel
theorem d_Ref_remove_0 : decode prog_8_method_22_code 0 = .ok (.aload_n 0, 1) := by decide +kernel
theorem d_Ref_remove_1 : decode prog_8_method_22_code 1 = .ok (.iload_n 1, 1) := by decide +kernel
theorem d_Ref_remove_2 : decode prog_8_method_22_code 2 = .ok (.invokevirtual 110, 3) := by decide +kernel
theorem d_Ref_remove_5 : decode prog_8_method_22_code 5 = .ok (.istore_n 2, 1) := by decide +kernel
theorem d_Ref_remove_6 : decode prog_8_method_22_code 6 = .ok (.iload_n 2, 1) := by decide +kernel
theorem d_Ref_remove_7 : decode prog_8_method_22_code 7 = .ok (.ifCond .ge 5, 3) := by decide +kernel
theorem d_Ref_remove_10 : decode prog_8_method_22_code 10 = .ok (.iconst 0, 1) := by decide +kernel
theorem d_Ref_remove_11 : decode prog_8_method_22_code 11 = .ok (.ireturn, 1) := by decide +kernel
theorem d_Ref_remove_12 : decode prog_8_method_22_code 12 = .ok (.aload_n 0, 1) := by decide +kernel
theorem d_Ref_remove_13 : decode prog_8_method_22_code 13 = .ok (.dup, 1) := by decide +kernel
theorem d_Ref_remove_14 : decode prog_8_method_22_code 14 = .ok (.getfield 101, 3) := by decide +kernel
theorem d_Ref_remove_17 : decode prog_8_method_22_code 17 = .ok (.iconst 1, 1) := by decide +kernel
theorem d_Ref_remove_18 : decode prog_8_method_22_code 18 = .ok (.isub, 1) := by decide +kernel
theorem d_Ref_remove_19 : decode prog_8_method_22_code 19 = .ok (.putfield 101, 3) := by decide +kernel
theorem d_Ref_remove_22 : decode prog_8_method_22_code 22 = .ok (.iload_n 2, 1) := by decide +kernel
theorem d_Ref_remove_23 : decode prog_8_method_22_code 23 = .ok (.istore_n 3, 1) := by decide +kernel
theorem d_Ref_remove_24 : decode prog_8_method_22_code 24 = .ok (.iload_n 3, 1) := by decide +kernel
theorem d_Ref_remove_25 : decode prog_8_method_22_code 25 = .ok (.aload_n 0, 1) := by decide +kernel
theorem d_Ref_remove_26 : decode prog_8_method_22_code 26 = .ok (.getfield 101, 3) := by decide +kernel
theorem d_Ref_remove_29 : decode prog_8_method_22_code 29 = .ok (.if_icmp .ge 23, 3) := by decide +kernel
theorem d_Ref_remove_32 : decode prog_8_method_22_code 32 = .ok (.aload_n 0, 1) := by decide +kernel
theorem d_Ref_remove_33 : decode prog_8_method_22_code 33 = .ok (.getfield 29, 3) := by decide +kernel
theorem d_Ref_remove_36 : decode prog_8_method_22_code 36 = .ok (.iload_n 3, 1) := by decide +kernel
theorem d_Ref_remove_37 : decode prog_8_method_22_code 37 = .ok (.aload_n 0, 1) := by decide +kernel
theorem d_Ref_remove_38 : decode prog_8_method_22_code 38 = .ok (.getfield 29, 3) := by decide +kernel
theorem d_Ref_remove_41 : decode prog_8_method_22_code 41 = .ok (.iload_n 3, 1) := by decide +kernel
theorem d_Ref_remove_42 : decode prog_8_method_22_code 42 = .ok (.iconst 1, 1) := by decide +kernel
theorem d_Ref_remove_43 : decode prog_8_method_22_code 43 = .ok (.iadd, 1) := by decide +kernel
theorem d_Ref_remove_44 : decode prog_8_method_22_code 44 = .ok (.iaload, 1) := by decide +kernel
theorem d_Ref_remove_45 : decode prog_8_method_22_code 45 = .ok (.iastore, 1) := by decide +kernel
theorem d_Ref_remove_46 : decode prog_8_method_22_code 46 = .ok (.iinc 3 1, 3) := by decide +kernel
theorem d_Ref_remove_49 : decode prog_8_method_22_code 49 = .ok (.goto (-25), 3) := by decide +kernel
theorem d_Ref_remove_52 : decode prog_8_method_22_code 52 = .ok (.iconst 1, 1) := by decide +kernel
theorem d_Ref_remove_53 : decode prog_8_method_22_code 53 = .ok (.ireturn, 1) := by decide +kernel
theorem d_Ref_member_0 : decode prog_8_method_23_code 0 = .ok (.iload_n 1, 1) := by decide +kernel
theorem d_Ref_member_1 : decode prog_8_method_23_code 1 = .ok (.ifCond .lt 20, 3) := by decide +kernel
theorem d_Ref_member_4 : decode prog_8_method_23_code 4 = .ok (.iload_n 1, 1) := by decide +kernel
theorem d_Ref_member_5 : decode prog_8_method_23_code 5 = .ok (.aload_n 0, 1) := by decide +kernel
theorem d_Ref_member_6 : decode prog_8_method_23_code 6 = .ok (.getfield 101, 3) := by decide +kernel
theorem d_Ref_member_9 : decode prog_8_method_23_code 9 = .ok (.if_icmp .ge 12, 3) := by decide +kernel
theorem d_Ref_member_12 : decode prog_8_method_23_code 12 = .ok (.aload_n 0, 1) := by decide +kernel
theorem d_Ref_member_13 : decode prog_8_method_23_code 13 = .ok (.getfield 29, 3) := by decide +kernel
theorem d_Ref_member_16 : decode prog_8_method_23_code 16 = .ok (.iload_n 1, 1) := by decide +kernel
theorem d_Ref_member_17 : decode prog_8_method_23_code 17 = .ok (.iaload, 1) := by decide +kernel
theorem d_Ref_member_18 : decode prog_8_method_23_code 18 = .ok (.goto 4, 3) := by decide +kernel
theorem d_Ref_member_21 : decode prog_8_method_23_code 21 = .ok (.iconst (-1), 1) := by decide +kernel
theorem d_Ref_member_22 : decode prog_8_method_23_code 22 = .ok (.ireturn, 1) := by decide +kernel
theorem d_Ref_item_0 : decode prog_8_method_24_code 0 = .ok (.iload_n 1, 1) := by decide +kernel
theorem d_Ref_item_1 : decode prog_8_method_24_code 1 = .ok (.ifCond .lt 40, 3) := by decide +kernel
theorem d_Ref_item_4 : decode prog_8_method_24_code 4 = .ok (.iload_n 1, 1) := by decide +kernel
theorem d_Ref_item_5 : decode prog_8_method_24_code 5 = .ok (.bipush 6, 2) := by decide +kernel
theorem d_Ref_item_7 : decode prog_8_method_24_code 7 = .ok (.if_icmp .gt 34, 3) := by decide +kernel
theorem d_Ref_item_10 : decode prog_8_method_24_code 10 = .ok (.aload_n 0, 1) := by decide +kernel
theorem d_Ref_item_11 : decode prog_8_method_24_code 11 = .ok (.getfield 104, 3) := by decide +kernel
theorem d_Ref_item_14 : decode prog_8_method_24_code 14 = .ok (.bipush 8, 2) := by decide +kernel
theorem d_Ref_item_16 : decode prog_8_method_24_code 16 = .ok (.if_icmp .ge 25, 3) := by decide +kernel
theorem d_Ref_item_19 : decode prog_8_method_24_code 19 = .ok (.iload_n 1, 1) := by decide +kernel
theorem d_Ref_item_20 : decode prog_8_method_24_code 20 = .ok (.bipush 6, 2) := by decide +kernel
theorem d_Ref_item_22 : decode prog_8_method_24_code 22 = .ok (.if_icmp .ge 21, 3) := by decide +kernel
theorem d_Ref_item_25 : decode prog_8_method_24_code 25 = .ok (.aload_n 0, 1) := by decide +kernel
theorem d_Ref_item_26 : decode prog_8_method_24_code 26 = .ok (.iload_n 1, 1) := by decide +kernel
