theorem d_Mac_nextOfTape_28 : decode prog_4_method_19_code 28 = .ok (.iconst 1, 1) := by decide +kernel
theorem d_Mac_nextOfTape_29 : decode prog_4_method_19_code 29 = .ok (.iadd, 1) := by decide +kernel
theorem d_Mac_nextOfTape_30 : decode prog_4_method_19_code 30 = .ok (.putfield 62, 3) := by decide +kernel
theorem d_Mac_nextOfTape_33 : decode prog_4_method_19_code 33 = .ok (.iload_n 1, 1) := by decide +kernel
theorem d_Mac_nextOfTape_34 : decode prog_4_method_19_code 34 = .ok (.ireturn, 1) := by decide +kernel
theorem d_Row_init_0 : decode prog_5_method_1_code 0 = .ok (.aload_n 0, 1) := by decide +kernel
theorem d_Row_init_1 : decode prog_5_method_1_code 1 = .ok (.invokespecial 3, 3) := by decide +kernel
theorem d_Row_init_4 : decode prog_5_method_1_code 4 = .ok (.aload_n 0, 1) := by decide +kernel
theorem d_Row_init_5 : decode prog_5_method_1_code 5 = .ok (.iload_n 1, 1) := by decide +kernel
theorem d_Row_init_6 : decode prog_5_method_1_code 6 = .ok (.newarray .int, 2) := by decide +kernel
theorem d_Row_init_8 : decode prog_5_method_1_code 8 = .ok (.putfield 9, 3) := by decide +kernel
theorem d_Row_init_11 : decode prog_5_method_1_code 11 = .ok (.return_, 1) := by decide +kernel
theorem d_Row_howMany_0 : decode prog_5_method_2_code 0 = .ok (.aload_n 0, 1) := by decide +kernel
theorem d_Row_howMany_1 : decode prog_5_method_2_code 1 = .ok (.getfield 15, 3) := by decide +kernel
theorem d_Row_howMany_4 : decode prog_5_method_2_code 4 = .ok (.ireturn, 1) := by decide +kernel
theorem d_Row_at_0 : decode prog_5_method_3_code 0 = .ok (.iload_n 1, 1) := by decide +kernel
theorem d_Row_at_1 : decode prog_5_method_3_code 1 = .ok (.ifCond .lt 20, 3) := by decide +kernel
theorem d_Row_at_4 : decode prog_5_method_3_code 4 = .ok (.iload_n 1, 1) := by decide +kernel
theorem d_Row_at_5 : decode prog_5_method_3_code 5 = .ok (.aload_n 0, 1) := by decide +kernel
theorem d_Row_at_6 : decode prog_5_method_3_code 6 = .ok (.getfield 15, 3) := by decide +kernel
theorem d_Row_at_9 : decode prog_5_method_3_code 9 = .ok (.if_icmp .ge 12, 3) := by decide +kernel
theorem d_Row_at_12 : decode prog_5_method_3_code 12 = .ok (.aload_n 0, 1) := by decide +kernel
theorem d_Row_at_13 : decode prog_5_method_3_code 13 = .ok (.getfield 9, 3) := by decide +kernel
theorem d_Row_at_16 : decode prog_5_method_3_code 16 = .ok (.iload_n 1, 1) := by decide +kernel
theorem d_Row_at_17 : decode prog_5_method_3_code 17 = .ok (.iaload, 1) := by decide +kernel
theorem d_Row_at_18 : decode prog_5_method_3_code 18 = .ok (.goto 4, 3) := by decide +kernel
theorem d_Row_at_21 : decode prog_5_method_3_code 21 = .ok (.iconst (-1), 1) := by decide +kernel
theorem d_Row_at_22 : decode prog_5_method_3_code 22 = .ok (.ireturn, 1) := by decide +kernel
theorem d_Row_placeOf_0 : decode prog_5_method_4_code 0 = .ok (.iconst 0, 1) := by decide +kernel
theorem d_Row_placeOf_1 : decode prog_5_method_4_code 1 = .ok (.istore_n 2, 1) := by decide +kernel
theorem d_Row_placeOf_2 : decode prog_5_method_4_code 2 = .ok (.iload_n 2, 1) := by decide +kernel
theorem d_Row_placeOf_3 : decode prog_5_method_4_code 3 = .ok (.aload_n 0, 1) := by decide +kernel
theorem d_Row_placeOf_4 : decode prog_5_method_4_code 4 = .ok (.getfield 15, 3) := by decide +kernel
theorem d_Row_placeOf_7 : decode prog_5_method_4_code 7 = .ok (.if_icmp .ge 21, 3) := by decide +kernel
theorem d_Row_placeOf_10 : decode prog_5_method_4_code 10 = .ok (.aload_n 0, 1) := by decide +kernel
theorem d_Row_placeOf_11 : decode prog_5_method_4_code 11 = .ok (.getfield 9, 3) := by decide +kernel
theorem d_Row_placeOf_14 : decode prog_5_method_4_code 14 = .ok (.iload_n 2, 1) := by decide +kernel
theorem d_Row_placeOf_15 : decode prog_5_method_4_code 15 = .ok (.iaload, 1) := by decide +kernel
theorem d_Row_placeOf_16 : decode prog_5_method_4_code 16 = .ok (.iload_n 1, 1) := by decide +kernel
theorem d_Row_placeOf_17 : decode prog_5_method_4_code 17 = .ok (.if_icmp .ne 5, 3) := by decide +kernel
theorem d_Row_placeOf_20 : decode prog_5_method_4_code 20 = .ok (.iload_n 2, 1) := by decide +kernel
theorem d_Row_placeOf_21 : decode prog_5_method_4_code 21 = .ok (.ireturn, 1) := by decide +kernel
theorem d_Row_placeOf_22 : decode prog_5_method_4_code 22 = .ok (.iinc 2 1, 3) := by decide +kernel
theorem d_Row_placeOf_25 : decode prog_5_method_4_code 25 = .ok (.goto (-23), 3) := by decide +kernel
theorem d_Row_placeOf_28 : decode prog_5_method_4_code 28 = .ok (.iconst (-1), 1) := by decide +kernel
theorem d_Row_placeOf_29 : decode prog_5_method_4_code 29 = .ok (.ireturn, 1) := by decide +kernel
theorem d_Row_holds_0 : decode prog_5_method_5_code 0 = .ok (.aload_n 0, 1) := by decide +kernel
theorem d_Row_holds_1 : decode prog_5_method_5_code 1 = .ok (.iload_n 1, 1) := by decide +kernel
theorem d_Row_holds_2 : decode prog_5_method_5_code 2 = .ok (.invokevirtual 19, 3) := by decide +kernel
theorem d_Row_holds_5 : decode prog_5_method_5_code 5 = .ok (.iconst (-1), 1) := by decide +kernel
theorem d_Row_holds_6 : decode prog_5_method_5_code 6 = .ok (.if_icmp .eq 7, 3) := by decide +kernel
theorem d_Row_holds_9 : decode prog_5_method_5_code 9 = .ok (.iconst 1, 1) := by decide +kernel
theorem d_Row_holds_10 : decode prog_5_method_5_code 10 = .ok (.goto 4, 3) := by decide +kernel
theorem d_Row_holds_13 : decode prog_5_method_5_code 13 = .ok (.iconst 0, 1) := by decide +kernel
theorem d_Row_holds_14 : decode prog_5_method_5_code 14 = .ok (.ireturn, 1) := by decide +kernel
theorem d_Row_append_0 : decode prog_5_method_6_code 0 = .ok (.aload_n 0, 1) := by decide +kernel
theorem d_Row_append_1 : decode prog_5_method_6_code 1 = .ok (.aload_n 0, 1) := by decide +kernel
theorem d_Row_append_2 : decode prog_5_method_6_code 2 = .ok (.getfield 15, 3) := by decide +kernel
theorem d_Row_append_5 : decode prog_5_method_6_code 5 = .ok (.iload_n 1, 1) := by decide +kernel
theorem d_Row_append_6 : decode prog_5_method_6_code 6 = .ok (.invokevirtual 23, 3) := by decide +kernel
theorem d_Row_append_9 : decode prog_5_method_6_code 9 = .ok (.ireturn, 1) := by decide +kernel
theorem d_Row_insert_0 : decode prog_5_method_7_code 0 = .ok (.aload_n 0, 1) := by decide +kernel
theorem d_Row_insert_1 : decode prog_5_method_7_code 1 = .ok (.getfield 15, 3) := by decide +kernel
theorem d_Row_insert_4 : decode prog_5_method_7_code 4 = .ok (.aload_n 0, 1) := by decide +kernel
theorem d_Row_insert_5 : decode prog_5_method_7_code 5 = .ok (.getfield 9, 3) := by decide +kernel
theorem d_Row_insert_8 : decode prog_5_method_7_code 8 = .ok (.arraylength, 1) := by decide +kernel
theorem d_Row_insert_9 : decode prog_5_method_7_code 9 = .ok (.if_icmp .ge 15, 3) := by decide +kernel
theorem d_Row_insert_12 : decode prog_5_method_7_code 12 = .ok (.iload_n 1, 1) := by decide +kernel
theorem d_Row_insert_13 : decode prog_5_method_7_code 13 = .ok (.ifCond .lt 11, 3) := by decide +kernel
theorem d_Row_insert_16 : decode prog_5_method_7_code 16 = .ok (.iload_n 1, 1) := by decide +kernel
theorem d_Row_insert_17 : decode prog_5_method_7_code 17 = .ok (.aload_n 0, 1) := by decide +kernel
theorem d_Row_insert_18 : decode prog_5_method_7_code 18 = .ok (.getfield 15, 3) := by decide +kernel
theorem d_Row_insert_21 : decode prog_5_method_7_code 21 = .ok (.if_icmp .le 5, 3) := by decide +kernel
theorem d_Row_insert_24 : decode prog_5_method_7_code 24 = .ok (.iconst 0, 1) := by decide +kernel
theorem d_Row_insert_25 : decode prog_5_method_7_code 25 = .ok (.ireturn, 1) := by decide +kernel
theorem d_Row_insert_26 : decode prog_5_method_7_code 26 = .ok (.aload_n 0, 1) := by decide +kernel
theorem d_Row_insert_27 : decode prog_5_method_7_code 27 = .ok (.getfield 15, 3) := by decide +kernel
theorem d_Row_insert_30 : decode prog_5_method_7_code 30 = .ok (.istore_n 3, 1) := by decide +kernel
theorem d_Row_insert_31 : decode prog_5_method_7_code 31 = .ok (.iload_n 3, 1) := by decide +kernel
theorem d_Row_insert_32 : decode prog_5_method_7_code 32 = .ok (.iload_n 1, 1) := by decide +kernel
theorem d_Row_insert_33 : decode prog_5_method_7_code 33 = .ok (.if_icmp .le 23, 3) := by decide +kernel
theorem d_Row_insert_36 : decode prog_5_method_7_code 36 = .ok (.aload_n 0, 1) := by decide +kernel
theorem d_Row_insert_37 : decode prog_5_method_7_code 37 = .ok (.getfield 9, 3) := by decide +kernel
theorem d_Row_insert_40 : decode prog_5_method_7_code 40 = .ok (.iload_n 3, 1) := by decide +kernel
theorem d_Row_insert_41 : decode prog_5_method_7_code 41 = .ok (.aload_n 0, 1) := by decide +kernel
theorem d_Row_insert_42 : decode prog_5_method_7_code 42 = .ok (.getfield 9, 3) := by decide +kernel
theorem d_Row_insert_45 : decode prog_5_method_7_code 45 = .ok (.iload_n 3, 1) := by decide +kernel
theorem d_Row_insert_46 : decode prog_5_method_7_code 46 = .ok (.iconst 1, 1) := by decide +kernel
theorem d_Row_insert_47 : decode prog_5_method_7_code 47 = .ok (.isub, 1) := by decide +kernel
theorem d_Row_insert_48 : decode prog_5_method_7_code 48 = .ok (.iaload, 1) := by decide +kernel
theorem d_Row_insert_49 : decode prog_5_method_7_code 49 = .ok (.iastore, 1) := by decide +kernel
theorem d_Row_insert_50 : decode prog_5_method_7_code 50 = .ok (.iinc 3 (-1), 3) := by decide +kernel
theorem d_Row_insert_53 : decode prog_5_method_7_code 53 = .ok (.goto (-22), 3) := by decide +kernel
theorem d_Row_insert_56 : decode prog_5_method_7_code 56 = .ok (.aload_n 0, 1) := by decide +kernel
theorem d_Row_insert_57 : decode prog_5_method_7_code 57 = .ok (.getfield 9, 3) := by decide +kernel
theorem d_Row_insert_60 : decode prog_5_method_7_code 60 = .ok (.iload_n 1, 1) := by decide +kernel
theorem d_Row_insert_61 : decode prog_5_method_7_code 61 = .ok (.iload_n 2, 1) := by decide +kernel
theorem d_Row_insert_62 : decode prog_5_method_7_code 62 = .ok (.iastore, 1) := by decide +kernel
theorem d_Row_insert_63 : decode prog_5_method_7_code 63 = .ok (.aload_n 0, 1) := by decide +kernel
theorem d_Row_insert_64 : decode prog_5_method_7_code 64 = .ok (.dup, 1) := by decide +kernel
theorem d_Row_insert_65 : decode prog_5_method_7_code 65 = .ok (.getfield 15, 3) := by decide +kernel
theorem d_Row_insert_68 : decode prog_5_method_7_code 68 = .ok (.iconst 1, 1) := by decide +kernel
theorem d_Row_insert_69 : decode prog_5_method_7_code 69 = .ok (.iadd, 1) := by decide +kernel
theorem d_Row_insert_70 : decode prog_5_method_7_code 70 = .ok (.putfield 15, 3) := by decide +kernel
theorem d_Row_insert_73 : decode prog_5_method_7_code 73 = .ok (.iconst 1, 1) := by decide +kernel
theorem d_Row_insert_74 : decode prog_5_method_7_code 74 = .ok (.ireturn, 1) := by decide +kernel
theorem d_Row_takeOut_0 : decode prog_5_method_8_code 0 = .ok (.aload_n 0, 1) := by decide +kernel
theorem d_Row_takeOut_1 : decode prog_5_method_8_code 1 = .ok (.iload_n 1, 1) := by decide +kernel
theorem d_Row_takeOut_2 : decode prog_5_method_8_code 2 = .ok (.invokevirtual 19, 3) := by decide +kernel
theorem d_Row_takeOut_5 : decode prog_5_method_8_code 5 = .ok (.istore_n 2, 1) := by decide +kernel
theorem d_Row_takeOut_6 : decode prog_5_method_8_code 6 = .ok (.iload_n 2, 1) := by decide +kernel
theorem d_Row_takeOut_7 : decode prog_5_method_8_code 7 = .ok (.iconst (-1), 1) := by decide +kernel
theorem d_Row_takeOut_8 : decode prog_5_method_8_code 8 = .ok (.if_icmp .ne 5, 3) := by decide +kernel
theorem d_Row_takeOut_11 : decode prog_5_method_8_code 11 = .ok (.iconst 0, 1) := by decide +kernel
theorem d_Row_takeOut_12 : decode prog_5_method_8_code 12 = .ok (.ireturn, 1) := by decide +kernel
theorem d_Row_takeOut_13 : decode prog_5_method_8_code 13 = .ok (.aload_n 0, 1) := by decide +kernel
theorem d_Row_takeOut_14 : decode prog_5_method_8_code 14 = .ok (.dup, 1) := by decide +kernel
theorem d_Row_takeOut_15 : decode prog_5_method_8_code 15 = .ok (.getfield 15, 3) := by decide +kernel
theorem d_Row_takeOut_18 : decode prog_5_method_8_code 18 = .ok (.iconst 1, 1) := by decide +kernel
theorem d_Row_takeOut_19 : decode prog_5_method_8_code 19 = .ok (.isub, 1) := by decide +kernel
theorem d_Row_takeOut_20 : decode prog_5_method_8_code 20 = .ok (.putfield 15, 3) := by decide +kernel
theorem d_Row_takeOut_23 : decode prog_5_method_8_code 23 = .ok (.iload_n 2, 1) := by decide +kernel
theorem d_Row_takeOut_24 : decode prog_5_method_8_code 24 = .ok (.istore_n 3, 1) := by decide +kernel
theorem d_Row_takeOut_25 : decode prog_5_method_8_code 25 = .ok (.iload_n 3, 1) := by decide +kernel
theorem d_Row_takeOut_26 : decode prog_5_method_8_code 26 = .ok (.aload_n 0, 1) := by decide +kernel
theorem d_Row_takeOut_27 : decode prog_5_method_8_code 27 = .ok (.getfield 15, 3) := by decide +kernel
theorem d_Row_takeOut_30 : decode prog_5_method_8_code 30 = .ok (.if_icmp .ge 23, 3) := by decide +kernel
theorem d_Row_takeOut_33 : decode prog_5_method_8_code 33 = .ok (.aload_n 0, 1) := by decide +kernel
theorem d_Row_takeOut_34 : decode prog_5_method_8_code 34 = .ok (.getfield 9, 3) := by decide +kernel
theorem d_Row_takeOut_37 : decode prog_5_method_8_code 37 = .ok (.iload_n 3, 1) := by decide +kernel
theorem d_Row_takeOut_38 : decode prog_5_method_8_code 38 = .ok (.aload_n 0, 1) := by decide +kernel
theorem d_Row_takeOut_39 : decode prog_5_method_8_code 39 = .ok (.getfield 9, 3) := by decide +kernel
theorem d_Row_takeOut_42 : decode prog_5_method_8_code 42 = .ok (.iload_n 3, 1) := by decide +kernel
theorem d_Row_takeOut_43 : decode prog_5_method_8_code 43 = .ok (.iconst 1, 1) := by decide +kernel
theorem d_Row_takeOut_44 : decode prog_5_method_8_code 44 = .ok (.iadd, 1) := by decide +kernel
theorem d_Row_takeOut_45 : decode prog_5_method_8_code 45 = .ok (.iaload, 1) := by decide +kernel
theorem d_Row_takeOut_46 : decode prog_5_method_8_code 46 = .ok (.iastore, 1) := by decide +kernel
theorem d_Row_takeOut_47 : decode prog_5_method_8_code 47 = .ok (.iinc 3 1, 3) := by decide +kernel
theorem d_Row_takeOut_50 : decode prog_5_method_8_code 50 = .ok (.goto (-25), 3) := by decide +kernel
theorem d_Row_takeOut_53 : decode prog_5_method_8_code 53 = .ok (.iconst 1, 1) := by decide +kernel
theorem d_Row_takeOut_54 : decode prog_5_method_8_code 54 = .ok (.ireturn, 1) := by decide +kernel
theorem d_Row_makeEmpty_0 : decode prog_5_method_9_code 0 = .ok (.aload_n 0, 1) := by decide +kernel
theorem d_Row_makeEmpty_1 : decode prog_5_method_9_code 1 = .ok (.iconst 0, 1) := by decide +kernel
theorem d_Row_makeEmpty_2 : decode prog_5_method_9_code 2 = .ok (.putfield 15, 3) := by decide +kernel
theorem d_Row_makeEmpty_5 : decode prog_5_method_9_code 5 = .ok (.return_, 1) := by decide +kernel
theorem d_Mod_init_0 : decode prog_6_method_1_code 0 = .ok (.aload_n 0, 1) := by decide +kernel
theorem d_Mod_init_1 : decode prog_6_method_1_code 1 = .ok (.invokespecial 3, 3) := by decide +kernel
theorem d_Mod_init_4 : decode prog_6_method_1_code 4 = .ok (.aload_n 0, 1) := by decide +kernel
theorem d_Mod_init_5 : decode prog_6_method_1_code 5 = .ok (.bipush 20, 2) := by decide +kernel
theorem d_Mod_init_7 : decode prog_6_method_1_code 7 = .ok (.newarray .int, 2) := by decide +kernel
theorem d_Mod_init_9 : decode prog_6_method_1_code 9 = .ok (.putfield 9, 3) := by decide +kernel
theorem d_Mod_init_12 : decode prog_6_method_1_code 12 = .ok (.aload_n 0, 1) := by decide +kernel
theorem d_Mod_init_13 : decode prog_6_method_1_code 13 = .ok (.bipush 20, 2) := by decide +kernel
theorem d_Mod_init_15 : decode prog_6_method_1_code 15 = .ok (.newarray .int, 2) := by decide +kernel
theorem d_Mod_init_17 : decode prog_6_method_1_code 17 = .ok (.putfield 15, 3) := by decide +kernel
theorem d_Mod_init_20 : decode prog_6_method_1_code 20 = .ok (.aload_n 0, 1) := by decide +kernel
theorem d_Mod_init_21 : decode prog_6_method_1_code 21 = .ok (.bipush 20, 2) := by decide +kernel
theorem d_Mod_init_23 : decode prog_6_method_1_code 23 = .ok (.newarray .int, 2) := by decide +kernel
theorem d_Mod_init_25 : decode prog_6_method_1_code 25 = .ok (.putfield 18, 3) := by decide +kernel
theorem d_Mod_init_28 : decode prog_6_method_1_code 28 = .ok (.aload_n 0, 1) := by decide +kernel
theorem d_Mod_init_29 : decode prog_6_method_1_code 29 = .ok (.bipush 20, 2) := by decide +kernel
theorem d_Mod_init_31 : decode prog_6_method_1_code 31 = .ok (.newarray .int, 2) := by decide +kernel
theorem d_Mod_init_33 : decode prog_6_method_1_code 33 = .ok (.putfield 21, 3) := by decide +kernel
theorem d_Mod_init_36 : decode prog_6_method_1_code 36 = .ok (.aload_n 0, 1) := by decide +kernel
theorem d_Mod_init_37 : decode prog_6_method_1_code 37 = .ok (.bipush 20, 2) := by decide +kernel
theorem d_Mod_init_39 : decode prog_6_method_1_code 39 = .ok (.newarray .int, 2) := by decide +kernel
theorem d_Mod_init_41 : decode prog_6_method_1_code 41 = .ok (.putfield 24, 3) := by decide +kernel
theorem d_Mod_init_44 : decode prog_6_method_1_code 44 = .ok (.aload_n 0, 1) := by decide +kernel
theorem d_Mod_init_45 : decode prog_6_method_1_code 45 = .ok (.bipush 20, 2) := by decide +kernel
theorem d_Mod_init_47 : decode prog_6_method_1_code 47 = .ok (.newarray .boolean, 2) := by decide +kernel
theorem d_Mod_init_49 : decode prog_6_method_1_code 49 = .ok (.putfield 27, 3) := by decide +kernel
theorem d_Mod_init_52 : decode prog_6_method_1_code 52 = .ok (.aload_n 0, 1) := by decide +kernel
theorem d_Mod_init_53 : decode prog_6_method_1_code 53 = .ok (.iconst 3, 1) := by decide +kernel
theorem d_Mod_init_54 : decode prog_6_method_1_code 54 = .ok (.newarray .int, 2) := by decide +kernel
theorem d_Mod_init_56 : decode prog_6_method_1_code 56 = .ok (.putfield 31, 3) := by decide +kernel
theorem d_Mod_init_59 : decode prog_6_method_1_code 59 = .ok (.aload_n 0, 1) := by decide +kernel
theorem d_Mod_init_60 : decode prog_6_method_1_code 60 = .ok (.bipush 16, 2) := by decide +kernel
theorem d_Mod_init_62 : decode prog_6_method_1_code 62 = .ok (.newarray .int, 2) := by decide +kernel
theorem d_Mod_init_64 : decode prog_6_method_1_code 64 = .ok (.putfield 34, 3) := by decide +kernel
theorem d_Mod_init_67 : decode prog_6_method_1_code 67 = .ok (.return_, 1) := by decide +kernel
theorem d_Mod_accepts_0 : decode prog_6_method_2_code 0 = .ok (.aload_n 0, 1) := by decide +kernel
theorem d_Mod_accepts_1 : decode prog_6_method_2_code 1 = .ok (.getfield 37, 3) := by decide +kernel
theorem d_Mod_accepts_4 : decode prog_6_method_2_code 4 = .ok (.bipush 20, 2) := by decide +kernel
theorem d_Mod_accepts_6 : decode prog_6_method_2_code 6 = .ok (.if_icmp .ge 33, 3) := by decide +kernel
theorem d_Mod_accepts_9 : decode prog_6_method_2_code 9 = .ok (.iload_n 1, 1) := by decide +kernel
theorem d_Mod_accepts_10 : decode prog_6_method_2_code 10 = .ok (.iload_n 2, 1) := by decide +kernel
theorem d_Mod_accepts_11 : decode prog_6_method_2_code 11 = .ok (.iload_n 3, 1) := by decide +kernel
theorem d_Mod_accepts_12 : decode prog_6_method_2_code 12 = .ok (.invokestatic 41, 3) := by decide +kernel
theorem d_Mod_accepts_15 : decode prog_6_method_2_code 15 = .ok (.ifCond .eq 24, 3) := by decide +kernel
theorem d_Mod_accepts_18 : decode prog_6_method_2_code 18 = .ok (.aload_n 0, 1) := by decide +kernel
theorem d_Mod_accepts_19 : decode prog_6_method_2_code 19 = .ok (.iload_n 1, 1) := by decide +kernel
theorem d_Mod_accepts_20 : decode prog_6_method_2_code 20 = .ok (.invokevirtual 45, 3) := by decide +kernel
theorem d_Mod_accepts_23 : decode prog_6_method_2_code 23 = .ok (.ifCond .eq 16, 3) := by decide +kernel
theorem d_Mod_accepts_26 : decode prog_6_method_2_code 26 = .ok (.aload_n 0, 1) := by decide +kernel
theorem d_Mod_accepts_27 : decode prog_6_method_2_code 27 = .ok (.iload_n 1, 1) := by decide +kernel
theorem d_Mod_accepts_28 : decode prog_6_method_2_code 28 = .ok (.iload_n 2, 1) := by decide +kernel
theorem d_Mod_accepts_29 : decode prog_6_method_2_code 29 = .ok (.invokevirtual 49, 3) := by decide +kernel
theorem d_Mod_accepts_32 : decode prog_6_method_2_code 32 = .ok (.ifCond .ne 7, 3) := by decide +kernel
theorem d_Mod_accepts_35 : decode prog_6_method_2_code 35 = .ok (.iconst 1, 1) := by decide +kernel
theorem d_Mod_accepts_36 : decode prog_6_method_2_code 36 = .ok (.goto 4, 3) := by decide +kernel
theorem d_Mod_accepts_39 : decode prog_6_method_2_code 39 = .ok (.iconst 0, 1) := by decide +kernel
theorem d_Mod_accepts_40 : decode prog_6_method_2_code 40 = .ok (.ireturn, 1) := by decide +kernel
theorem d_Mod_append_0 : decode prog_6_method_3_code 0 = .ok (.iload_n 1, 1) := by decide +kernel
theorem d_Mod_append_1 : decode prog_6_method_3_code 1 = .ok (.iconst 2, 1) := by decide +kernel
theorem d_Mod_append_2 : decode prog_6_method_3_code 2 = .ok (.if_icmp .ne 7, 3) := by decide +kernel
theorem d_Mod_append_5 : decode prog_6_method_3_code 5 = .ok (.iload_n 2, 1) := by decide +kernel
theorem d_Mod_append_6 : decode prog_6_method_3_code 6 = .ok (.goto 7, 3) := by decide +kernel
theorem d_Mod_append_9 : decode prog_6_method_3_code 9 = .ok (.aload_n 0, 1) := by decide +kernel
theorem d_Mod_append_10 : decode prog_6_method_3_code 10 = .ok (.invokevirtual 53, 3) := by decide +kernel
theorem d_Mod_append_13 : decode prog_6_method_3_code 13 = .ok (.istore 4, 2) := by decide +kernel
theorem d_Mod_append_15 : decode prog_6_method_3_code 15 = .ok (.aload_n 0, 1) := by decide +kernel
theorem d_Mod_append_16 : decode prog_6_method_3_code 16 = .ok (.getfield 9, 3) := by decide +kernel
theorem d_Mod_append_19 : decode prog_6_method_3_code 19 = .ok (.aload_n 0, 1) := by decide +kernel
theorem d_Mod_append_20 : decode prog_6_method_3_code 20 = .ok (.getfield 37, 3) := by decide +kernel
theorem d_Mod_append_23 : decode prog_6_method_3_code 23 = .ok (.iload_n 1, 1) := by decide +kernel
theorem d_Mod_append_24 : decode prog_6_method_3_code 24 = .ok (.iastore, 1) := by decide +kernel
theorem d_Mod_append_25 : decode prog_6_method_3_code 25 = .ok (.aload_n 0, 1) := by decide +kernel
theorem d_Mod_append_26 : decode prog_6_method_3_code 26 = .ok (.getfield 15, 3) := by decide +kernel
theorem d_Mod_append_29 : decode prog_6_method_3_code 29 = .ok (.aload_n 0, 1) := by decide +kernel
theorem d_Mod_append_30 : decode prog_6_method_3_code 30 = .ok (.getfield 37, 3) := by decide +kernel
theorem d_Mod_append_33 : decode prog_6_method_3_code 33 = .ok (.iload_n 2, 1) := by decide +kernel
theorem d_Mod_append_34 : decode prog_6_method_3_code 34 = .ok (.iastore, 1) := by decide +kernel
theorem d_Mod_append_35 : decode prog_6_method_3_code 35 = .ok (.aload_n 0, 1) := by decide +kernel
theorem d_Mod_append_36 : decode prog_6_method_3_code 36 = .ok (.getfield 18, 3) := by decide +kernel
theorem d_Mod_append_39 : decode prog_6_method_3_code 39 = .ok (.aload_n 0, 1) := by decide +kernel
theorem d_Mod_append_40 : decode prog_6_method_3_code 40 = .ok (.getfield 37, 3) := by decide +kernel
theorem d_Mod_append_43 : decode prog_6_method_3_code 43 = .ok (.iload_n 3, 1) := by decide +kernel
theorem d_Mod_append_44 : decode prog_6_method_3_code 44 = .ok (.iastore, 1) := by decide +kernel
theorem d_Mod_append_45 : decode prog_6_method_3_code 45 = .ok (.aload_n 0, 1) := by decide +kernel
theorem d_Mod_append_46 : decode prog_6_method_3_code 46 = .ok (.getfield 21, 3) := by decide +kernel
theorem d_Mod_append_49 : decode prog_6_method_3_code 49 = .ok (.aload_n 0, 1) := by decide +kernel
theorem d_Mod_append_50 : decode prog_6_method_3_code 50 = .ok (.getfield 37, 3) := by decide +kernel
theorem d_Mod_append_53 : decode prog_6_method_3_code 53 = .ok (.iload 4, 2) := by decide +kernel
theorem d_Mod_append_55 : decode prog_6_method_3_code 55 = .ok (.iastore, 1) := by decide +kernel
theorem d_Mod_append_56 : decode prog_6_method_3_code 56 = .ok (.aload_n 0, 1) := by decide +kernel
theorem d_Mod_append_57 : decode prog_6_method_3_code 57 = .ok (.iload_n 1, 1) := by decide +kernel
theorem d_Mod_append_58 : decode prog_6_method_3_code 58 = .ok (.iload_n 2, 1) := by decide +kernel
theorem d_Mod_append_59 : decode prog_6_method_3_code 59 = .ok (.invokevirtual 57, 3) := by decide +kernel
theorem d_Mod_append_62 : decode prog_6_method_3_code 62 = .ok (.aload_n 0, 1) := by decide +kernel
theorem d_Mod_append_63 : decode prog_6_method_3_code 63 = .ok (.dup, 1) := by decide +kernel
theorem d_Mod_append_64 : decode prog_6_method_3_code 64 = .ok (.getfield 37, 3) := by decide +kernel
theorem d_Mod_append_67 : decode prog_6_method_3_code 67 = .ok (.iconst 1, 1) := by decide +kernel
theorem d_Mod_append_68 : decode prog_6_method_3_code 68 = .ok (.iadd, 1) := by decide +kernel
theorem d_Mod_append_69 : decode prog_6_method_3_code 69 = .ok (.putfield 37, 3) := by decide +kernel
theorem d_Mod_append_72 : decode prog_6_method_3_code 72 = .ok (.aload_n 0, 1) := by decide +kernel
theorem d_Mod_append_73 : decode prog_6_method_3_code 73 = .ok (.invokevirtual 61, 3) := by decide +kernel
theorem d_Mod_append_76 : decode prog_6_method_3_code 76 = .ok (.return_, 1) := by decide +kernel
theorem d_Mod_takeAllAway_0 : decode prog_6_method_4_code 0 = .ok (.aload_n 0, 1) := by decide +kernel
theorem d_Mod_takeAllAway_1 : decode prog_6_method_4_code 1 = .ok (.getfield 37, 3) := by decide +kernel
theorem d_Mod_takeAllAway_4 : decode prog_6_method_4_code 4 = .ok (.istore_n 1, 1) := by decide +kernel
theorem d_Mod_takeAllAway_5 : decode prog_6_method_4_code 5 = .ok (.aload_n 0, 1) := by decide +kernel
theorem d_Mod_takeAllAway_6 : decode prog_6_method_4_code 6 = .ok (.iconst 0, 1) := by decide +kernel
theorem d_Mod_takeAllAway_7 : decode prog_6_method_4_code 7 = .ok (.putfield 37, 3) := by decide +kernel
theorem d_Mod_takeAllAway_10 : decode prog_6_method_4_code 10 = .ok (.aload_n 0, 1) := by decide +kernel
theorem d_Mod_takeAllAway_11 : decode prog_6_method_4_code 11 = .ok (.iconst 0, 1) := by decide +kernel
theorem d_Mod_takeAllAway_12 : decode prog_6_method_4_code 12 = .ok (.putfield 64, 3) := by decide +kernel
theorem d_Mod_takeAllAway_15 : decode prog_6_method_4_code 15 = .ok (.aload_n 0, 1) := by decide +kernel
theorem d_Mod_takeAllAway_16 : decode prog_6_method_4_code 16 = .ok (.iconst 0, 1) := by decide +kernel
theorem d_Mod_takeAllAway_17 : decode prog_6_method_4_code 17 = .ok (.putfield 67, 3) := by decide +kernel
theorem d_Mod_takeAllAway_20 : decode prog_6_method_4_code 20 = .ok (.aload_n 0, 1) := by decide +kernel
theorem d_Mod_takeAllAway_21 : decode prog_6_method_4_code 21 = .ok (.iconst 0, 1) := by decide +kernel
theorem d_Mod_takeAllAway_22 : decode prog_6_method_4_code 22 = .ok (.putfield 70, 3) := by decide +kernel
theorem d_Mod_takeAllAway_25 : decode prog_6_method_4_code 25 = .ok (.aload_n 0, 1) := by decide +kernel
theorem d_Mod_takeAllAway_26 : decode prog_6_method_4_code 26 = .ok (.iconst 0, 1) := by decide +kernel
theorem d_Mod_takeAllAway_27 : decode prog_6_method_4_code 27 = .ok (.putfield 73, 3) := by decide +kernel
theorem d_Mod_takeAllAway_30 : decode prog_6_method_4_code 30 = .ok (.aload_n 0, 1) := by decide +kernel
theorem d_Mod_takeAllAway_31 : decode prog_6_method_4_code 31 = .ok (.invokevirtual 61, 3) := by decide +kernel
theorem d_Mod_takeAllAway_34 : decode prog_6_method_4_code 34 = .ok (.iload_n 1, 1) := by decide +kernel
theorem d_Mod_takeAllAway_35 : decode prog_6_method_4_code 35 = .ok (.ireturn, 1) := by decide +kernel
theorem d_Mod_howMany_0 : decode prog_6_method_5_code 0 = .ok (.aload_n 0, 1) := by decide +kernel
theorem d_Mod_howMany_1 : decode prog_6_method_5_code 1 = .ok (.getfield 37, 3) := by decide +kernel
theorem d_Mod_howMany_4 : decode prog_6_method_5_code 4 = .ok (.ireturn, 1) := by decide +kernel
theorem d_Mod_kindOf_0 : decode prog_6_method_6_code 0 = .ok (.aload_n 0, 1) := by decide +kernel
theorem d_Mod_kindOf_1 : decode prog_6_method_6_code 1 = .ok (.getfield 9, 3) := by decide +kernel
theorem d_Mod_kindOf_4 : decode prog_6_method_6_code 4 = .ok (.iload_n 1, 1) := by decide +kernel
theorem d_Mod_kindOf_5 : decode prog_6_method_6_code 5 = .ok (.iaload, 1) := by decide +kernel
theorem d_Mod_kindOf_6 : decode prog_6_method_6_code 6 = .ok (.ireturn, 1) := by decide +kernel
theorem d_Mod_firstOf_0 : decode prog_6_method_7_code 0 = .ok (.aload_n 0, 1) := by decide +kernel
theorem d_Mod_firstOf_1 : decode prog_6_method_7_code 1 = .ok (.getfield 15, 3) := by decide +kernel
theorem d_Mod_firstOf_4 : decode prog_6_method_7_code 4 = .ok (.iload_n 1, 1) := by decide +kernel
theorem d_Mod_firstOf_5 : decode prog_6_method_7_code 5 = .ok (.iaload, 1) := by decide +kernel
theorem d_Mod_firstOf_6 : decode prog_6_method_7_code 6 = .ok (.ireturn, 1) := by decide +kernel
theorem d_Mod_secondOf_0 : decode prog_6_method_8_code 0 = .ok (.aload_n 0, 1) := by decide +kernel
theorem d_Mod_secondOf_1 : decode prog_6_method_8_code 1 = .ok (.getfield 18, 3) := by decide +kernel
theorem d_Mod_secondOf_4 : decode prog_6_method_8_code 4 = .ok (.iload_n 1, 1) := by decide +kernel
theorem d_Mod_secondOf_5 : decode prog_6_method_8_code 5 = .ok (.iaload, 1) := by decide +kernel
theorem d_Mod_secondOf_6 : decode prog_6_method_8_code 6 = .ok (.ireturn, 1) := by decide +kernel
theorem d_Mod_sectionOf_0 : decode prog_6_method_9_code 0 = .ok (.aload_n 0, 1) := by decide +kernel
theorem d_Mod_sectionOf_1 : decode prog_6_method_9_code 1 = .ok (.getfield 21, 3) := by decide +kernel
theorem d_Mod_sectionOf_4 : decode prog_6_method_9_code 4 = .ok (.iload_n 1, 1) := by decide +kernel
theorem d_Mod_sectionOf_5 : decode prog_6_method_9_code 5 = .ok (.iaload, 1) := by decide +kernel
theorem d_Mod_sectionOf_6 : decode prog_6_method_9_code 6 = .ok (.ireturn, 1) := by decide +kernel
theorem d_Mod_placeOf_0 : decode prog_6_method_10_code 0 = .ok (.aload_n 0, 1) := by decide +kernel
theorem d_Mod_placeOf_1 : decode prog_6_method_10_code 1 = .ok (.getfield 24, 3) := by decide +kernel
theorem d_Mod_placeOf_4 : decode prog_6_method_10_code 4 = .ok (.iload_n 1, 1) := by decide +kernel
theorem d_Mod_placeOf_5 : decode prog_6_method_10_code 5 = .ok (.iaload, 1) := by decide +kernel
theorem d_Mod_placeOf_6 : decode prog_6_method_10_code 6 = .ok (.ireturn, 1) := by decide +kernel
theorem d_Mod_holderOf_0 : decode prog_6_method_11_code 0 = .ok (.aload_n 0, 1) := by decide +kernel
theorem d_Mod_holderOf_1 : decode prog_6_method_11_code 1 = .ok (.getfield 34, 3) := by decide +kernel
theorem d_Mod_holderOf_4 : decode prog_6_method_11_code 4 = .ok (.iload_n 1, 1) := by decide +kernel
theorem d_Mod_holderOf_5 : decode prog_6_method_11_code 5 = .ok (.iaload, 1) := by decide +kernel
theorem d_Mod_holderOf_6 : decode prog_6_method_11_code 6 = .ok (.ireturn, 1) := by decide +kernel
theorem d_Mod_wordsIn_0 : decode prog_6_method_12_code 0 = .ok (.aload_n 0, 1) := by decide +kernel
theorem d_Mod_wordsIn_1 : decode prog_6_method_12_code 1 = .ok (.getfield 31, 3) := by decide +kernel
theorem d_Mod_wordsIn_4 : decode prog_6_method_12_code 4 = .ok (.iload_n 1, 1) := by decide +kernel
theorem d_Mod_wordsIn_5 : decode prog_6_method_12_code 5 = .ok (.iaload, 1) := by decide +kernel
theorem d_Mod_wordsIn_6 : decode prog_6_method_12_code 6 = .ok (.ireturn, 1) := by decide +kernel
theorem d_Mod_isLongJump_0 : decode prog_6_method_13_code 0 = .ok (.iload_n 1, 1) := by decide +kernel
theorem d_Mod_isLongJump_1 : decode prog_6_method_13_code 1 = .ok (.ifCond .lt 24, 3) := by decide +kernel
theorem d_Mod_isLongJump_4 : decode prog_6_method_13_code 4 = .ok (.iload_n 1, 1) := by decide +kernel
theorem d_Mod_isLongJump_5 : decode prog_6_method_13_code 5 = .ok (.aload_n 0, 1) := by decide +kernel
theorem d_Mod_isLongJump_6 : decode prog_6_method_13_code 6 = .ok (.getfield 37, 3) := by decide +kernel
theorem d_Mod_isLongJump_9 : decode prog_6_method_13_code 9 = .ok (.if_icmp .ge 16, 3) := by decide +kernel
theorem d_Mod_isLongJump_12 : decode prog_6_method_13_code 12 = .ok (.aload_n 0, 1) := by decide +kernel
theorem d_Mod_isLongJump_13 : decode prog_6_method_13_code 13 = .ok (.getfield 27, 3) := by decide +kernel
theorem d_Mod_isLongJump_16 : decode prog_6_method_13_code 16 = .ok (.iload_n 1, 1) := by decide +kernel
theorem d_Mod_isLongJump_17 : decode prog_6_method_13_code 17 = .ok (.baload, 1) := by decide +kernel
theorem d_Mod_isLongJump_18 : decode prog_6_method_13_code 18 = .ok (.ifCond .eq 7, 3) := by decide +kernel
theorem d_Mod_isLongJump_21 : decode prog_6_method_13_code 21 = .ok (.iconst 1, 1) := by decide +kernel
theorem d_Mod_isLongJump_22 : decode prog_6_method_13_code 22 = .ok (.goto 4, 3) := by decide +kernel
theorem d_Mod_isLongJump_25 : decode prog_6_method_13_code 25 = .ok (.iconst 0, 1) := by decide +kernel
theorem d_Mod_isLongJump_26 : decode prog_6_method_13_code 26 = .ok (.ireturn, 1) := by decide +kernel
theorem d_Mod_distanceOf_0 : decode prog_6_method_14_code 0 = .ok (.aload_n 0, 1) := by decide +kernel
theorem d_Mod_distanceOf_1 : decode prog_6_method_14_code 1 = .ok (.getfield 24, 3) := by decide +kernel
theorem d_Mod_distanceOf_4 : decode prog_6_method_14_code 4 = .ok (.aload_n 0, 1) := by decide +kernel
theorem d_Mod_distanceOf_5 : decode prog_6_method_14_code 5 = .ok (.getfield 34, 3) := by decide +kernel
theorem d_Mod_distanceOf_8 : decode prog_6_method_14_code 8 = .ok (.aload_n 0, 1) := by decide +kernel
theorem d_Mod_distanceOf_9 : decode prog_6_method_14_code 9 = .ok (.getfield 15, 3) := by decide +kernel
theorem d_Mod_distanceOf_12 : decode prog_6_method_14_code 12 = .ok (.iload_n 1, 1) := by decide +kernel
theorem d_Mod_distanceOf_13 : decode prog_6_method_14_code 13 = .ok (.iaload, 1) := by decide +kernel
theorem d_Mod_distanceOf_14 : decode prog_6_method_14_code 14 = .ok (.iaload, 1) := by decide +kernel
theorem d_Mod_distanceOf_15 : decode prog_6_method_14_code 15 = .ok (.iaload, 1) := by decide +kernel
theorem d_Mod_distanceOf_16 : decode prog_6_method_14_code 16 = .ok (.aload_n 0, 1) := by decide +kernel
theorem d_Mod_distanceOf_17 : decode prog_6_method_14_code 17 = .ok (.getfield 24, 3) := by decide +kernel
theorem d_Mod_distanceOf_20 : decode prog_6_method_14_code 20 = .ok (.iload_n 1, 1) := by decide +kernel
theorem d_Mod_distanceOf_21 : decode prog_6_method_14_code 21 = .ok (.iaload, 1) := by decide +kernel
theorem d_Mod_distanceOf_22 : decode prog_6_method_14_code 22 = .ok (.isub, 1) := by decide +kernel
theorem d_Mod_distanceOf_23 : decode prog_6_method_14_code 23 = .ok (.iconst 1, 1) := by decide +kernel
theorem d_Mod_distanceOf_24 : decode prog_6_method_14_code 24 = .ok (.isub, 1) := by decide +kernel
theorem d_Mod_distanceOf_25 : decode prog_6_method_14_code 25 = .ok (.ireturn, 1) := by decide +kernel
theorem d_Mod_defines_0 : decode prog_6_method_15_code 0 = .ok (.aload_n 0, 1) := by decide +kernel
theorem d_Mod_defines_1 : decode prog_6_method_15_code 1 = .ok (.getfield 64, 3) := by decide +kernel
theorem d_Mod_defines_4 : decode prog_6_method_15_code 4 = .ok (.iload_n 1, 1) := by decide +kernel
theorem d_Mod_defines_5 : decode prog_6_method_15_code 5 = .ok (.invokestatic 76, 3) := by decide +kernel
theorem d_Mod_defines_8 : decode prog_6_method_15_code 8 = .ok (.ireturn, 1) := by decide +kernel
theorem d_Mod_exportedNames_0 : decode prog_6_method_16_code 0 = .ok (.aload_n 0, 1) := by decide +kernel
theorem d_Mod_exportedNames_1 : decode prog_6_method_16_code 1 = .ok (.getfield 64, 3) := by decide +kernel
theorem d_Mod_exportedNames_4 : decode prog_6_method_16_code 4 = .ok (.aload_n 0, 1) := by decide +kernel
theorem d_Mod_exportedNames_5 : decode prog_6_method_16_code 5 = .ok (.getfield 70, 3) := by decide +kernel
theorem d_Mod_exportedNames_8 : decode prog_6_method_16_code 8 = .ok (.iand, 1) := by decide +kernel
theorem d_Mod_exportedNames_9 : decode prog_6_method_16_code 9 = .ok (.ireturn, 1) := by decide +kernel
theorem d_Mod_referredNames_0 : decode prog_6_method_17_code 0 = .ok (.aload_n 0, 1) := by decide +kernel
theorem d_Mod_referredNames_1 : decode prog_6_method_17_code 1 = .ok (.getfield 70, 3) := by decide +kernel
theorem d_Mod_referredNames_4 : decode prog_6_method_17_code 4 = .ok (.aload_n 0, 1) := by decide +kernel
theorem d_Mod_referredNames_5 : decode prog_6_method_17_code 5 = .ok (.getfield 73, 3) := by decide +kernel
theorem d_Mod_referredNames_8 : decode prog_6_method_17_code 8 = .ok (.ior, 1) := by decide +kernel
theorem d_Mod_referredNames_9 : decode prog_6_method_17_code 9 = .ok (.aload_n 0, 1) := by decide +kernel
theorem d_Mod_referredNames_10 : decode prog_6_method_17_code 10 = .ok (.getfield 64, 3) := by decide +kernel
theorem d_Mod_referredNames_13 : decode prog_6_method_17_code 13 = .ok (.iconst (-1), 1) := by decide +kernel
theorem d_Mod_referredNames_14 : decode prog_6_method_17_code 14 = .ok (.ixor, 1) := by decide +kernel
theorem d_Mod_referredNames_15 : decode prog_6_method_17_code 15 = .ok (.iand, 1) := by decide +kernel
theorem d_Mod_referredNames_16 : decode prog_6_method_17_code 16 = .ok (.aload_n 0, 1) := by decide +kernel
theorem d_Mod_referredNames_17 : decode prog_6_method_17_code 17 = .ok (.getfield 67, 3) := by decide +kernel
theorem d_Mod_referredNames_20 : decode prog_6_method_17_code 20 = .ok (.iconst (-1), 1) := by decide +kernel
theorem d_Mod_referredNames_21 : decode prog_6_method_17_code 21 = .ok (.ixor, 1) := by decide +kernel
theorem d_Mod_referredNames_22 : decode prog_6_method_17_code 22 = .ok (.iand, 1) := by decide +kernel
theorem d_Mod_referredNames_23 : decode prog_6_method_17_code 23 = .ok (.ireturn, 1) := by decide +kernel
theorem d_Mod_commons_0 : decode prog_6_method_18_code 0 = .ok (.aload_n 0, 1) := by decide +kernel
theorem d_Mod_commons_1 : decode prog_6_method_18_code 1 = .ok (.getfield 67, 3) := by decide +kernel
theorem d_Mod_commons_4 : decode prog_6_method_18_code 4 = .ok (.ireturn, 1) := by decide +kernel
theorem d_Mod_wordsOfCommon_0 : decode prog_6_method_19_code 0 = .ok (.aload_n 0, 1) := by decide +kernel
theorem d_Mod_wordsOfCommon_1 : decode prog_6_method_19_code 1 = .ok (.getfield 67, 3) := by decide +kernel
theorem d_Mod_wordsOfCommon_4 : decode prog_6_method_19_code 4 = .ok (.iload_n 1, 1) := by decide +kernel
theorem d_Mod_wordsOfCommon_5 : decode prog_6_method_19_code 5 = .ok (.invokestatic 76, 3) := by decide +kernel
theorem d_Mod_wordsOfCommon_8 : decode prog_6_method_19_code 8 = .ok (.ifCond .eq 17, 3) := by decide +kernel
theorem d_Mod_wordsOfCommon_11 : decode prog_6_method_19_code 11 = .ok (.aload_n 0, 1) := by decide +kernel
theorem d_Mod_wordsOfCommon_12 : decode prog_6_method_19_code 12 = .ok (.getfield 18, 3) := by decide +kernel
theorem d_Mod_wordsOfCommon_15 : decode prog_6_method_19_code 15 = .ok (.aload_n 0, 1) := by decide +kernel
theorem d_Mod_wordsOfCommon_16 : decode prog_6_method_19_code 16 = .ok (.getfield 34, 3) := by decide +kernel
theorem d_Mod_wordsOfCommon_19 : decode prog_6_method_19_code 19 = .ok (.iload_n 1, 1) := by decide +kernel
theorem d_Mod_wordsOfCommon_20 : decode prog_6_method_19_code 20 = .ok (.iaload, 1) := by decide +kernel
theorem d_Mod_wordsOfCommon_21 : decode prog_6_method_19_code 21 = .ok (.iaload, 1) := by decide +kernel
theorem d_Mod_wordsOfCommon_22 : decode prog_6_method_19_code 22 = .ok (.goto 4, 3) := by decide +kernel
theorem d_Mod_wordsOfCommon_25 : decode prog_6_method_19_code 25 = .ok (.iconst 0, 1) := by decide +kernel
theorem d_Mod_wordsOfCommon_26 : decode prog_6_method_19_code 26 = .ok (.ireturn, 1) := by decide +kernel
theorem d_Mod_hasFittingNumbers_0 : decode prog_6_method_20_code 0 = .ok (.iload_n 0, 1) := by decide +kernel
theorem d_Mod_hasFittingNumbers_1 : decode prog_6_method_20_code 1 = .ok (.tableswitch 165 0 8 #[51, 51, 56, 61, 66, 92, 100, 122, 145], 51) := by decide +kernel
theorem d_Mod_hasFittingNumbers_52 : decode prog_6_method_20_code 52 = .ok (.iload_n 1, 1) := by decide +kernel
theorem d_Mod_hasFittingNumbers_53 : decode prog_6_method_20_code 53 = .ok (.invokestatic 79, 3) := by decide +kernel
theorem d_Mod_hasFittingNumbers_56 : decode prog_6_method_20_code 56 = .ok (.ireturn, 1) := by decide +kernel
theorem d_Mod_hasFittingNumbers_57 : decode prog_6_method_20_code 57 = .ok (.iload_n 1, 1) := by decide +kernel
theorem d_Mod_hasFittingNumbers_58 : decode prog_6_method_20_code 58 = .ok (.invokestatic 82, 3) := by decide +kernel
theorem d_Mod_hasFittingNumbers_61 : decode prog_6_method_20_code 61 = .ok (.ireturn, 1) := by decide +kernel
theorem d_Mod_hasFittingNumbers_62 : decode prog_6_method_20_code 62 = .ok (.iload_n 1, 1) := by decide +kernel
theorem d_Mod_hasFittingNumbers_63 : decode prog_6_method_20_code 63 = .ok (.invokestatic 85, 3) := by decide +kernel
theorem d_Mod_hasFittingNumbers_66 : decode prog_6_method_20_code 66 = .ok (.ireturn, 1) := by decide +kernel
theorem d_Mod_hasFittingNumbers_67 : decode prog_6_method_20_code 67 = .ok (.iload_n 1, 1) := by decide +kernel
theorem d_Mod_hasFittingNumbers_68 : decode prog_6_method_20_code 68 = .ok (.invokestatic 79, 3) := by decide +kernel
theorem d_Mod_hasFittingNumbers_71 : decode prog_6_method_20_code 71 = .ok (.ifCond .eq 20, 3) := by decide +kernel
theorem d_Mod_hasFittingNumbers_74 : decode prog_6_method_20_code 74 = .ok (.iload_n 2, 1) := by decide +kernel
theorem d_Mod_hasFittingNumbers_75 : decode prog_6_method_20_code 75 = .ok (.sipush (-32768), 3) := by decide +kernel
theorem d_Mod_hasFittingNumbers_78 : decode prog_6_method_20_code 78 = .ok (.sipush 32767, 3) := by decide +kernel
theorem d_Mod_hasFittingNumbers_81 : decode prog_6_method_20_code 81 = .ok (.invokestatic 88, 3) := by decide +kernel
theorem d_Mod_hasFittingNumbers_84 : decode prog_6_method_20_code 84 = .ok (.ifCond .eq 7, 3) := by decide +kernel
theorem d_Mod_hasFittingNumbers_87 : decode prog_6_method_20_code 87 = .ok (.iconst 1, 1) := by decide +kernel
theorem d_Mod_hasFittingNumbers_88 : decode prog_6_method_20_code 88 = .ok (.goto 4, 3) := by decide +kernel
theorem d_Mod_hasFittingNumbers_91 : decode prog_6_method_20_code 91 = .ok (.iconst 0, 1) := by decide +kernel
theorem d_Mod_hasFittingNumbers_92 : decode prog_6_method_20_code 92 = .ok (.ireturn, 1) := by decide +kernel
theorem d_Mod_hasFittingNumbers_93 : decode prog_6_method_20_code 93 = .ok (.iload_n 1, 1) := by decide +kernel
theorem d_Mod_hasFittingNumbers_94 : decode prog_6_method_20_code 94 = .ok (.iconst 1, 1) := by decide +kernel
theorem d_Mod_hasFittingNumbers_95 : decode prog_6_method_20_code 95 = .ok (.bipush 16, 2) := by decide +kernel
theorem d_Mod_hasFittingNumbers_97 : decode prog_6_method_20_code 97 = .ok (.invokestatic 88, 3) := by decide +kernel
theorem d_Mod_hasFittingNumbers_100 : decode prog_6_method_20_code 100 = .ok (.ireturn, 1) := by decide +kernel
theorem d_Mod_hasFittingNumbers_101 : decode prog_6_method_20_code 101 = .ok (.iload_n 1, 1) := by decide +kernel
theorem d_Mod_hasFittingNumbers_102 : decode prog_6_method_20_code 102 = .ok (.invokestatic 79, 3) := by decide +kernel
theorem d_Mod_hasFittingNumbers_105 : decode prog_6_method_20_code 105 = .ok (.ifCond .eq 16, 3) := by decide +kernel
theorem d_Mod_hasFittingNumbers_108 : decode prog_6_method_20_code 108 = .ok (.iload_n 2, 1) := by decide +kernel
theorem d_Mod_hasFittingNumbers_109 : decode prog_6_method_20_code 109 = .ok (.iconst 0, 1) := by decide +kernel
theorem d_Mod_hasFittingNumbers_110 : decode prog_6_method_20_code 110 = .ok (.iconst 3, 1) := by decide +kernel
theorem d_Mod_hasFittingNumbers_111 : decode prog_6_method_20_code 111 = .ok (.invokestatic 88, 3) := by decide +kernel
theorem d_Mod_hasFittingNumbers_114 : decode prog_6_method_20_code 114 = .ok (.ifCond .eq 7, 3) := by decide +kernel
theorem d_Mod_hasFittingNumbers_117 : decode prog_6_method_20_code 117 = .ok (.iconst 1, 1) := by decide +kernel
theorem d_Mod_hasFittingNumbers_118 : decode prog_6_method_20_code 118 = .ok (.goto 4, 3) := by decide +kernel
theorem d_Mod_hasFittingNumbers_121 : decode prog_6_method_20_code 121 = .ok (.iconst 0, 1) := by decide +kernel
theorem d_Mod_hasFittingNumbers_122 : decode prog_6_method_20_code 122 = .ok (.ireturn, 1) := by decide +kernel
theorem d_Mod_hasFittingNumbers_123 : decode prog_6_method_20_code 123 = .ok (.iload_n 1, 1) := by decide +kernel
theorem d_Mod_hasFittingNumbers_124 : decode prog_6_method_20_code 124 = .ok (.invokestatic 79, 3) := by decide +kernel
theorem d_Mod_hasFittingNumbers_127 : decode prog_6_method_20_code 127 = .ok (.ifCond .eq 17, 3) := by decide +kernel
theorem d_Mod_hasFittingNumbers_130 : decode prog_6_method_20_code 130 = .ok (.iload_n 2, 1) := by decide +kernel
theorem d_Mod_hasFittingNumbers_131 : decode prog_6_method_20_code 131 = .ok (.iconst 1, 1) := by decide +kernel
theorem d_Mod_hasFittingNumbers_132 : decode prog_6_method_20_code 132 = .ok (.bipush 16, 2) := by decide +kernel
theorem d_Mod_hasFittingNumbers_134 : decode prog_6_method_20_code 134 = .ok (.invokestatic 88, 3) := by decide +kernel
theorem d_Mod_hasFittingNumbers_137 : decode prog_6_method_20_code 137 = .ok (.ifCond .eq 7, 3) := by decide +kernel
theorem d_Mod_hasFittingNumbers_140 : decode prog_6_method_20_code 140 = .ok (.iconst 1, 1) := by decide +kernel
theorem d_Mod_hasFittingNumbers_141 : decode prog_6_method_20_code 141 = .ok (.goto 4, 3) := by decide +kernel
theorem d_Mod_hasFittingNumbers_144 : decode prog_6_method_20_code 144 = .ok (.iconst 0, 1) := by decide +kernel
theorem d_Mod_hasFittingNumbers_145 : decode prog_6_method_20_code 145 = .ok (.ireturn, 1) := by decide +kernel
theorem d_Mod_hasFittingNumbers_146 : decode prog_6_method_20_code 146 = .ok (.iload_n 1, 1) := by decide +kernel
theorem d_Mod_hasFittingNumbers_147 : decode prog_6_method_20_code 147 = .ok (.invokestatic 79, 3) := by decide +kernel
theorem d_Mod_hasFittingNumbers_150 : decode prog_6_method_20_code 150 = .ok (.ifCond .eq 14, 3) := by decide +kernel
theorem d_Mod_hasFittingNumbers_153 : decode prog_6_method_20_code 153 = .ok (.iload_n 2, 1) := by decide +kernel
theorem d_Mod_hasFittingNumbers_154 : decode prog_6_method_20_code 154 = .ok (.invokestatic 85, 3) := by decide +kernel
theorem d_Mod_hasFittingNumbers_157 : decode prog_6_method_20_code 157 = .ok (.ifCond .eq 7, 3) := by decide +kernel
theorem d_Mod_hasFittingNumbers_160 : decode prog_6_method_20_code 160 = .ok (.iconst 1, 1) := by decide +kernel
theorem d_Mod_hasFittingNumbers_161 : decode prog_6_method_20_code 161 = .ok (.goto 4, 3) := by decide +kernel
theorem d_Mod_hasFittingNumbers_164 : decode prog_6_method_20_code 164 = .ok (.iconst 0, 1) := by decide +kernel
theorem d_Mod_hasFittingNumbers_165 : decode prog_6_method_20_code 165 = .ok (.ireturn, 1) := by decide +kernel
theorem d_Mod_hasFittingNumbers_166 : decode prog_6_method_20_code 166 = .ok (.iconst 0, 1) := by decide +kernel
theorem d_Mod_hasFittingNumbers_167 : decode prog_6_method_20_code 167 = .ok (.ireturn, 1) := by decide +kernel
theorem d_Mod_mayStandInSection_0 : decode prog_6_method_21_code 0 = .ok (.iload_n 1, 1) := by decide +kernel
theorem d_Mod_mayStandInSection_1 : decode prog_6_method_21_code 1 = .ok (.bipush 6, 2) := by decide +kernel
theorem d_Mod_mayStandInSection_3 : decode prog_6_method_21_code 3 = .ok (.if_icmp .ne 16, 3) := by decide +kernel
theorem d_Mod_mayStandInSection_6 : decode prog_6_method_21_code 6 = .ok (.aload_n 0, 1) := by decide +kernel
theorem d_Mod_mayStandInSection_7 : decode prog_6_method_21_code 7 = .ok (.invokevirtual 53, 3) := by decide +kernel
theorem d_Mod_mayStandInSection_10 : decode prog_6_method_21_code 10 = .ok (.ifCond .ne 7, 3) := by decide +kernel
theorem d_Mod_mayStandInSection_13 : decode prog_6_method_21_code 13 = .ok (.iconst 1, 1) := by decide +kernel
theorem d_Mod_mayStandInSection_14 : decode prog_6_method_21_code 14 = .ok (.goto 4, 3) := by decide +kernel
theorem d_Mod_mayStandInSection_17 : decode prog_6_method_21_code 17 = .ok (.iconst 0, 1) := by decide +kernel
theorem d_Mod_mayStandInSection_18 : decode prog_6_method_21_code 18 = .ok (.ireturn, 1) := by decide +kernel
theorem d_Mod_mayStandInSection_19 : decode prog_6_method_21_code 19 = .ok (.iload_n 1, 1) := by decide +kernel
theorem d_Mod_mayStandInSection_20 : decode prog_6_method_21_code 20 = .ok (.iconst 3, 1) := by decide +kernel
theorem d_Mod_mayStandInSection_21 : decode prog_6_method_21_code 21 = .ok (.if_icmp .eq 8, 3) := by decide +kernel
theorem d_Mod_mayStandInSection_24 : decode prog_6_method_21_code 24 = .ok (.iload_n 1, 1) := by decide +kernel
theorem d_Mod_mayStandInSection_25 : decode prog_6_method_21_code 25 = .ok (.iconst 4, 1) := by decide +kernel
theorem d_Mod_mayStandInSection_26 : decode prog_6_method_21_code 26 = .ok (.if_icmp .ne 17, 3) := by decide +kernel
theorem d_Mod_mayStandInSection_29 : decode prog_6_method_21_code 29 = .ok (.aload_n 0, 1) := by decide +kernel
theorem d_Mod_mayStandInSection_30 : decode prog_6_method_21_code 30 = .ok (.invokevirtual 53, 3) := by decide +kernel
theorem d_Mod_mayStandInSection_33 : decode prog_6_method_21_code 33 = .ok (.iconst 2, 1) := by decide +kernel
theorem d_Mod_mayStandInSection_34 : decode prog_6_method_21_code 34 = .ok (.if_icmp .eq 7, 3) := by decide +kernel
theorem d_Mod_mayStandInSection_37 : decode prog_6_method_21_code 37 = .ok (.iconst 1, 1) := by decide +kernel
theorem d_Mod_mayStandInSection_38 : decode prog_6_method_21_code 38 = .ok (.goto 4, 3) := by decide +kernel
theorem d_Mod_mayStandInSection_41 : decode prog_6_method_21_code 41 = .ok (.iconst 0, 1) := by decide +kernel
theorem d_Mod_mayStandInSection_42 : decode prog_6_method_21_code 42 = .ok (.ireturn, 1) := by decide +kernel
theorem d_Mod_mayStandInSection_43 : decode prog_6_method_21_code 43 = .ok (.iconst 1, 1) := by decide +kernel
theorem d_Mod_mayStandInSection_44 : decode prog_6_method_21_code 44 = .ok (.ireturn, 1) := by decide +kernel
theorem d_Mod_isSaidTwice_0 : decode prog_6_method_22_code 0 = .ok (.iload_n 1, 1) := by decide +kernel
theorem d_Mod_isSaidTwice_1 : decode prog_6_method_22_code 1 = .ok (.invokestatic 91, 3) := by decide +kernel
theorem d_Mod_isSaidTwice_4 : decode prog_6_method_22_code 4 = .ok (.ifCond .eq 23, 3) := by decide +kernel
theorem d_Mod_isSaidTwice_7 : decode prog_6_method_22_code 7 = .ok (.aload_n 0, 1) := by decide +kernel
theorem d_Mod_isSaidTwice_8 : decode prog_6_method_22_code 8 = .ok (.getfield 64, 3) := by decide +kernel
theorem d_Mod_isSaidTwice_11 : decode prog_6_method_22_code 11 = .ok (.aload_n 0, 1) := by decide +kernel
theorem d_Mod_isSaidTwice_12 : decode prog_6_method_22_code 12 = .ok (.getfield 67, 3) := by decide +kernel
theorem d_Mod_isSaidTwice_15 : decode prog_6_method_22_code 15 = .ok (.ior, 1) := by decide +kernel
theorem d_Mod_isSaidTwice_16 : decode prog_6_method_22_code 16 = .ok (.iload_n 2, 1) := by decide +kernel
theorem d_Mod_isSaidTwice_17 : decode prog_6_method_22_code 17 = .ok (.invokestatic 76, 3) := by decide +kernel
theorem d_Mod_isSaidTwice_20 : decode prog_6_method_22_code 20 = .ok (.ifCond .eq 7, 3) := by decide +kernel
theorem d_Mod_isSaidTwice_23 : decode prog_6_method_22_code 23 = .ok (.iconst 1, 1) := by decide +kernel
theorem d_Mod_isSaidTwice_24 : decode prog_6_method_22_code 24 = .ok (.goto 4, 3) := by decide +kernel
theorem d_Mod_isSaidTwice_27 : decode prog_6_method_22_code 27 = .ok (.iconst 0, 1) := by decide +kernel
theorem d_Mod_isSaidTwice_28 : decode prog_6_method_22_code 28 = .ok (.ireturn, 1) := by decide +kernel
theorem d_Mod_holdsName_0 : decode prog_6_method_23_code 0 = .ok (.iload_n 0, 1) := by decide +kernel
theorem d_Mod_holdsName_1 : decode prog_6_method_23_code 1 = .ok (.ifCond .eq 15, 3) := by decide +kernel
theorem d_Mod_holdsName_4 : decode prog_6_method_23_code 4 = .ok (.iload_n 0, 1) := by decide +kernel
theorem d_Mod_holdsName_5 : decode prog_6_method_23_code 5 = .ok (.bipush 8, 2) := by decide +kernel
theorem d_Mod_holdsName_7 : decode prog_6_method_23_code 7 = .ok (.if_icmp .eq 9, 3) := by decide +kernel
theorem d_Mod_holdsName_10 : decode prog_6_method_23_code 10 = .ok (.iload_n 0, 1) := by decide +kernel
theorem d_Mod_holdsName_11 : decode prog_6_method_23_code 11 = .ok (.bipush 7, 2) := by decide +kernel
theorem d_Mod_holdsName_13 : decode prog_6_method_23_code 13 = .ok (.if_icmp .ne 7, 3) := by decide +kernel
theorem d_Mod_holdsName_16 : decode prog_6_method_23_code 16 = .ok (.iconst 1, 1) := by decide +kernel
theorem d_Mod_holdsName_17 : decode prog_6_method_23_code 17 = .ok (.goto 4, 3) := by decide +kernel
theorem d_Mod_holdsName_20 : decode prog_6_method_23_code 20 = .ok (.iconst 0, 1) := by decide +kernel
theorem d_Mod_holdsName_21 : decode prog_6_method_23_code 21 = .ok (.ireturn, 1) := by decide +kernel
theorem d_Mod_currentSection_0 : decode prog_6_method_24_code 0 = .ok (.aload_n 0, 1) := by decide +kernel
theorem d_Mod_currentSection_1 : decode prog_6_method_24_code 1 = .ok (.getfield 37, 3) := by decide +kernel
theorem d_Mod_currentSection_4 : decode prog_6_method_24_code 4 = .ok (.ifCond .ne 7, 3) := by decide +kernel
theorem d_Mod_currentSection_7 : decode prog_6_method_24_code 7 = .ok (.iconst 0, 1) := by decide +kernel
theorem d_Mod_currentSection_8 : decode prog_6_method_24_code 8 = .ok (.goto 14, 3) := by decide +kernel
theorem d_Mod_currentSection_11 : decode prog_6_method_24_code 11 = .ok (.aload_n 0, 1) := by decide +kernel
theorem d_Mod_currentSection_12 : decode prog_6_method_24_code 12 = .ok (.getfield 21, 3) := by decide +kernel
theorem d_Mod_currentSection_15 : decode prog_6_method_24_code 15 = .ok (.aload_n 0, 1) := by decide +kernel
theorem d_Mod_currentSection_16 : decode prog_6_method_24_code 16 = .ok (.getfield 37, 3) := by decide +kernel
theorem d_Mod_currentSection_19 : decode prog_6_method_24_code 19 = .ok (.iconst 1, 1) := by decide +kernel
theorem d_Mod_currentSection_20 : decode prog_6_method_24_code 20 = .ok (.isub, 1) := by decide +kernel
theorem d_Mod_currentSection_21 : decode prog_6_method_24_code 21 = .ok (.iaload, 1) := by decide +kernel
theorem d_Mod_currentSection_22 : decode prog_6_method_24_code 22 = .ok (.ireturn, 1) := by decide +kernel
theorem d_Mod_noteName_0 : decode prog_6_method_25_code 0 = .ok (.iload_n 1, 1) := by decide +kernel
theorem d_Mod_noteName_1 : decode prog_6_method_25_code 1 = .ok (.invokestatic 91, 3) := by decide +kernel
theorem d_Mod_noteName_4 : decode prog_6_method_25_code 4 = .ok (.ifCond .eq 13, 3) := by decide +kernel
theorem d_Mod_noteName_7 : decode prog_6_method_25_code 7 = .ok (.aload_n 0, 1) := by decide +kernel
theorem d_Mod_noteName_8 : decode prog_6_method_25_code 8 = .ok (.getfield 34, 3) := by decide +kernel
theorem d_Mod_noteName_11 : decode prog_6_method_25_code 11 = .ok (.iload_n 2, 1) := by decide +kernel
theorem d_Mod_noteName_12 : decode prog_6_method_25_code 12 = .ok (.aload_n 0, 1) := by decide +kernel
theorem d_Mod_noteName_13 : decode prog_6_method_25_code 13 = .ok (.getfield 37, 3) := by decide +kernel
theorem d_Mod_noteName_16 : decode prog_6_method_25_code 16 = .ok (.iastore, 1) := by decide +kernel
theorem d_Mod_noteName_17 : decode prog_6_method_25_code 17 = .ok (.iload_n 1, 1) := by decide +kernel
theorem d_Mod_noteName_18 : decode prog_6_method_25_code 18 = .ok (.ifCond .eq 9, 3) := by decide +kernel
theorem d_Mod_noteName_21 : decode prog_6_method_25_code 21 = .ok (.iload_n 1, 1) := by decide +kernel
theorem d_Mod_noteName_22 : decode prog_6_method_25_code 22 = .ok (.bipush 8, 2) := by decide +kernel
theorem d_Mod_noteName_24 : decode prog_6_method_25_code 24 = .ok (.if_icmp .ne 19, 3) := by decide +kernel
theorem d_Mod_noteName_27 : decode prog_6_method_25_code 27 = .ok (.aload_n 0, 1) := by decide +kernel
theorem d_Mod_noteName_28 : decode prog_6_method_25_code 28 = .ok (.dup, 1) := by decide +kernel
theorem d_Mod_noteName_29 : decode prog_6_method_25_code 29 = .ok (.getfield 64, 3) := by decide +kernel
theorem d_Mod_noteName_32 : decode prog_6_method_25_code 32 = .ok (.iload_n 2, 1) := by decide +kernel
theorem d_Mod_noteName_33 : decode prog_6_method_25_code 33 = .ok (.invokestatic 94, 3) := by decide +kernel
theorem d_Mod_noteName_36 : decode prog_6_method_25_code 36 = .ok (.ior, 1) := by decide +kernel
theorem d_Mod_noteName_37 : decode prog_6_method_25_code 37 = .ok (.putfield 64, 3) := by decide +kernel
theorem d_Mod_noteName_40 : decode prog_6_method_25_code 40 = .ok (.goto 70, 3) := by decide +kernel
theorem d_Mod_noteName_43 : decode prog_6_method_25_code 43 = .ok (.iload_n 1, 1) := by decide +kernel
theorem d_Mod_noteName_44 : decode prog_6_method_25_code 44 = .ok (.bipush 7, 2) := by decide +kernel
theorem d_Mod_noteName_46 : decode prog_6_method_25_code 46 = .ok (.if_icmp .ne 19, 3) := by decide +kernel
theorem d_Mod_noteName_49 : decode prog_6_method_25_code 49 = .ok (.aload_n 0, 1) := by decide +kernel
theorem d_Mod_noteName_50 : decode prog_6_method_25_code 50 = .ok (.dup, 1) := by decide +kernel
theorem d_Mod_noteName_51 : decode prog_6_method_25_code 51 = .ok (.getfield 67, 3) := by decide +kernel
theorem d_Mod_noteName_54 : decode prog_6_method_25_code 54 = .ok (.iload_n 2, 1) := by decide +kernel
theorem d_Mod_noteName_55 : decode prog_6_method_25_code 55 = .ok (.invokestatic 94, 3) := by decide +kernel
theorem d_Mod_noteName_58 : decode prog_6_method_25_code 58 = .ok (.ior, 1) := by decide +kernel
theorem d_Mod_noteName_59 : decode prog_6_method_25_code 59 = .ok (.putfield 67, 3) := by decide +kernel
theorem d_Mod_noteName_62 : decode prog_6_method_25_code 62 = .ok (.goto 48, 3) := by decide +kernel
theorem d_Mod_noteName_65 : decode prog_6_method_25_code 65 = .ok (.iload_n 1, 1) := by decide +kernel
theorem d_Mod_noteName_66 : decode prog_6_method_25_code 66 = .ok (.iconst 1, 1) := by decide +kernel
theorem d_Mod_noteName_67 : decode prog_6_method_25_code 67 = .ok (.if_icmp .ne 19, 3) := by decide +kernel
theorem d_Mod_noteName_70 : decode prog_6_method_25_code 70 = .ok (.aload_n 0, 1) := by decide +kernel
theorem d_Mod_noteName_71 : decode prog_6_method_25_code 71 = .ok (.dup, 1) := by decide +kernel
theorem d_Mod_noteName_72 : decode prog_6_method_25_code 72 = .ok (.getfield 70, 3) := by decide +kernel
theorem d_Mod_noteName_75 : decode prog_6_method_25_code 75 = .ok (.iload_n 2, 1) := by decide +kernel
theorem d_Mod_noteName_76 : decode prog_6_method_25_code 76 = .ok (.invokestatic 94, 3) := by decide +kernel
theorem d_Mod_noteName_79 : decode prog_6_method_25_code 79 = .ok (.ior, 1) := by decide +kernel
theorem d_Mod_noteName_80 : decode prog_6_method_25_code 80 = .ok (.putfield 70, 3) := by decide +kernel
theorem d_Mod_noteName_83 : decode prog_6_method_25_code 83 = .ok (.goto 27, 3) := by decide +kernel
theorem d_Mod_noteName_86 : decode prog_6_method_25_code 86 = .ok (.iload_n 1, 1) := by decide +kernel
theorem d_Mod_noteName_87 : decode prog_6_method_25_code 87 = .ok (.iconst 4, 1) := by decide +kernel
theorem d_Mod_noteName_88 : decode prog_6_method_25_code 88 = .ok (.if_icmp .eq 9, 3) := by decide +kernel
theorem d_Mod_noteName_91 : decode prog_6_method_25_code 91 = .ok (.iload_n 1, 1) := by decide +kernel
theorem d_Mod_noteName_92 : decode prog_6_method_25_code 92 = .ok (.bipush 6, 2) := by decide +kernel
theorem d_Mod_noteName_94 : decode prog_6_method_25_code 94 = .ok (.if_icmp .ne 16, 3) := by decide +kernel
theorem d_Mod_noteName_97 : decode prog_6_method_25_code 97 = .ok (.aload_n 0, 1) := by decide +kernel
theorem d_Mod_noteName_98 : decode prog_6_method_25_code 98 = .ok (.dup, 1) := by decide +kernel
theorem d_Mod_noteName_99 : decode prog_6_method_25_code 99 = .ok (.getfield 73, 3) := by decide +kernel
theorem d_Mod_noteName_102 : decode prog_6_method_25_code 102 = .ok (.iload_n 2, 1) := by decide +kernel
theorem d_Mod_noteName_103 : decode prog_6_method_25_code 103 = .ok (.invokestatic 94, 3) := by decide +kernel
theorem d_Mod_noteName_106 : decode prog_6_method_25_code 106 = .ok (.ior, 1) := by decide +kernel
theorem d_Mod_noteName_107 : decode prog_6_method_25_code 107 = .ok (.putfield 73, 3) := by decide +kernel
theorem d_Mod_noteName_110 : decode prog_6_method_25_code 110 = .ok (.return_, 1) := by decide +kernel
theorem d_Mod_settleJumps_0 : decode prog_6_method_26_code 0 = .ok (.iconst 0, 1) := by decide +kernel
theorem d_Mod_settleJumps_1 : decode prog_6_method_26_code 1 = .ok (.istore_n 1, 1) := by decide +kernel
theorem d_Mod_settleJumps_2 : decode prog_6_method_26_code 2 = .ok (.iload_n 1, 1) := by decide +kernel
theorem d_Mod_settleJumps_3 : decode prog_6_method_26_code 3 = .ok (.aload_n 0, 1) := by decide +kernel
theorem d_Mod_settleJumps_4 : decode prog_6_method_26_code 4 = .ok (.getfield 37, 3) := by decide +kernel
theorem d_Mod_settleJumps_7 : decode prog_6_method_26_code 7 = .ok (.if_icmp .ge 39, 3) := by decide +kernel
theorem d_Mod_settleJumps_10 : decode prog_6_method_26_code 10 = .ok (.aload_n 0, 1) := by decide +kernel
theorem d_Mod_settleJumps_11 : decode prog_6_method_26_code 11 = .ok (.getfield 27, 3) := by decide +kernel
theorem d_Mod_settleJumps_14 : decode prog_6_method_26_code 14 = .ok (.iload_n 1, 1) := by decide +kernel
theorem d_Mod_settleJumps_15 : decode prog_6_method_26_code 15 = .ok (.aload_n 0, 1) := by decide +kernel
theorem d_Mod_settleJumps_16 : decode prog_6_method_26_code 16 = .ok (.getfield 9, 3) := by decide +kernel
theorem d_Mod_settleJumps_19 : decode prog_6_method_26_code 19 = .ok (.iload_n 1, 1) := by decide +kernel
theorem d_Mod_settleJumps_20 : decode prog_6_method_26_code 20 = .ok (.iaload, 1) := by decide +kernel
theorem d_Mod_settleJumps_21 : decode prog_6_method_26_code 21 = .ok (.bipush 6, 2) := by decide +kernel
theorem d_Mod_settleJumps_23 : decode prog_6_method_26_code 23 = .ok (.if_icmp .ne 15, 3) := by decide +kernel
theorem d_Mod_settleJumps_26 : decode prog_6_method_26_code 26 = .ok (.aload_n 0, 1) := by decide +kernel
theorem d_Mod_settleJumps_27 : decode prog_6_method_26_code 27 = .ok (.iload_n 1, 1) := by decide +kernel
theorem d_Mod_settleJumps_28 : decode prog_6_method_26_code 28 = .ok (.invokevirtual 98, 3) := by decide +kernel
theorem d_Mod_settleJumps_31 : decode prog_6_method_26_code 31 = .ok (.ifCond .ne 7, 3) := by decide +kernel
theorem d_Mod_settleJumps_34 : decode prog_6_method_26_code 34 = .ok (.iconst 1, 1) := by decide +kernel
theorem d_Mod_settleJumps_35 : decode prog_6_method_26_code 35 = .ok (.goto 4, 3) := by decide +kernel
theorem d_Mod_settleJumps_38 : decode prog_6_method_26_code 38 = .ok (.iconst 0, 1) := by decide +kernel
theorem d_Mod_settleJumps_39 : decode prog_6_method_26_code 39 = .ok (.bastore, 1) := by decide +kernel
theorem d_Mod_settleJumps_40 : decode prog_6_method_26_code 40 = .ok (.iinc 1 1, 3) := by decide +kernel
theorem d_Mod_settleJumps_43 : decode prog_6_method_26_code 43 = .ok (.goto (-41), 3) := by decide +kernel
theorem d_Mod_settleJumps_46 : decode prog_6_method_26_code 46 = .ok (.aload_n 0, 1) := by decide +kernel
theorem d_Mod_settleJumps_47 : decode prog_6_method_26_code 47 = .ok (.invokevirtual 101, 3) := by decide +kernel
theorem d_Mod_settleJumps_50 : decode prog_6_method_26_code 50 = .ok (.iconst 0, 1) := by decide +kernel
theorem d_Mod_settleJumps_51 : decode prog_6_method_26_code 51 = .ok (.istore_n 1, 1) := by decide +kernel
theorem d_Mod_settleJumps_52 : decode prog_6_method_26_code 52 = .ok (.iload_n 1, 1) := by decide +kernel
theorem d_Mod_settleJumps_53 : decode prog_6_method_26_code 53 = .ok (.bipush 20, 2) := by decide +kernel
theorem d_Mod_settleJumps_55 : decode prog_6_method_26_code 55 = .ok (.if_icmp .ge 21, 3) := by decide +kernel
theorem d_Mod_settleJumps_58 : decode prog_6_method_26_code 58 = .ok (.aload_n 0, 1) := by decide +kernel
theorem d_Mod_settleJumps_59 : decode prog_6_method_26_code 59 = .ok (.invokevirtual 104, 3) := by decide +kernel
theorem d_Mod_settleJumps_62 : decode prog_6_method_26_code 62 = .ok (.ifCond .ne 4, 3) := by decide +kernel
theorem d_Mod_settleJumps_65 : decode prog_6_method_26_code 65 = .ok (.return_, 1) := by decide +kernel
theorem d_Mod_settleJumps_66 : decode prog_6_method_26_code 66 = .ok (.aload_n 0, 1) := by decide +kernel
theorem d_Mod_settleJumps_67 : decode prog_6_method_26_code 67 = .ok (.invokevirtual 101, 3) := by decide +kernel
theorem d_Mod_settleJumps_70 : decode prog_6_method_26_code 70 = .ok (.iinc 1 1, 3) := by decide +kernel
theorem d_Mod_settleJumps_73 : decode prog_6_method_26_code 73 = .ok (.goto (-21), 3) := by decide +kernel
theorem d_Mod_settleJumps_76 : decode prog_6_method_26_code 76 = .ok (.return_, 1) := by decide +kernel
theorem d_Mod_aimsAtOwnText_0 : decode prog_6_method_27_code 0 = .ok (.aload_n 0, 1) := by decide +kernel
theorem d_Mod_aimsAtOwnText_1 : decode prog_6_method_27_code 1 = .ok (.getfield 15, 3) := by decide +kernel
theorem d_Mod_aimsAtOwnText_4 : decode prog_6_method_27_code 4 = .ok (.iload_n 1, 1) := by decide +kernel
theorem d_Mod_aimsAtOwnText_5 : decode prog_6_method_27_code 5 = .ok (.iaload, 1) := by decide +kernel
theorem d_Mod_aimsAtOwnText_6 : decode prog_6_method_27_code 6 = .ok (.istore_n 2, 1) := by decide +kernel
theorem d_Mod_aimsAtOwnText_7 : decode prog_6_method_27_code 7 = .ok (.aload_n 0, 1) := by decide +kernel
theorem d_Mod_aimsAtOwnText_8 : decode prog_6_method_27_code 8 = .ok (.getfield 64, 3) := by decide +kernel
theorem d_Mod_aimsAtOwnText_11 : decode prog_6_method_27_code 11 = .ok (.iload_n 2, 1) := by decide +kernel
theorem d_Mod_aimsAtOwnText_12 : decode prog_6_method_27_code 12 = .ok (.invokestatic 76, 3) := by decide +kernel
theorem d_Mod_aimsAtOwnText_15 : decode prog_6_method_27_code 15 = .ok (.ifCond .ne 5, 3) := by decide +kernel
theorem d_Mod_aimsAtOwnText_18 : decode prog_6_method_27_code 18 = .ok (.iconst 0, 1) := by decide +kernel
theorem d_Mod_aimsAtOwnText_19 : decode prog_6_method_27_code 19 = .ok (.ireturn, 1) := by decide +kernel
theorem d_Mod_aimsAtOwnText_20 : decode prog_6_method_27_code 20 = .ok (.aload_n 0, 1) := by decide +kernel
theorem d_Mod_aimsAtOwnText_21 : decode prog_6_method_27_code 21 = .ok (.getfield 34, 3) := by decide +kernel
theorem d_Mod_aimsAtOwnText_24 : decode prog_6_method_27_code 24 = .ok (.iload_n 2, 1) := by decide +kernel
theorem d_Mod_aimsAtOwnText_25 : decode prog_6_method_27_code 25 = .ok (.iaload, 1) := by decide +kernel
theorem d_Mod_aimsAtOwnText_26 : decode prog_6_method_27_code 26 = .ok (.istore_n 3, 1) := by decide +kernel
theorem d_Mod_aimsAtOwnText_27 : decode prog_6_method_27_code 27 = .ok (.aload_n 0, 1) := by decide +kernel
theorem d_Mod_aimsAtOwnText_28 : decode prog_6_method_27_code 28 = .ok (.getfield 9, 3) := by decide +kernel
theorem d_Mod_aimsAtOwnText_31 : decode prog_6_method_27_code 31 = .ok (.iload_n 3, 1) := by decide +kernel
theorem d_Mod_aimsAtOwnText_32 : decode prog_6_method_27_code 32 = .ok (.iaload, 1) := by decide +kernel
theorem d_Mod_aimsAtOwnText_33 : decode prog_6_method_27_code 33 = .ok (.ifCond .ne 16, 3) := by decide +kernel
theorem d_Mod_aimsAtOwnText_36 : decode prog_6_method_27_code 36 = .ok (.aload_n 0, 1) := by decide +kernel
theorem d_Mod_aimsAtOwnText_37 : decode prog_6_method_27_code 37 = .ok (.getfield 21, 3) := by decide +kernel
theorem d_Mod_aimsAtOwnText_40 : decode prog_6_method_27_code 40 = .ok (.iload_n 3, 1) := by decide +kernel
theorem d_Mod_aimsAtOwnText_41 : decode prog_6_method_27_code 41 = .ok (.iaload, 1) := by decide +kernel
theorem d_Mod_aimsAtOwnText_42 : decode prog_6_method_27_code 42 = .ok (.ifCond .ne 7, 3) := by decide +kernel
theorem d_Mod_aimsAtOwnText_45 : decode prog_6_method_27_code 45 = .ok (.iconst 1, 1) := by decide +kernel
theorem d_Mod_aimsAtOwnText_46 : decode prog_6_method_27_code 46 = .ok (.goto 4, 3) := by decide +kernel
theorem d_Mod_aimsAtOwnText_49 : decode prog_6_method_27_code 49 = .ok (.iconst 0, 1) := by decide +kernel
theorem d_Mod_aimsAtOwnText_50 : decode prog_6_method_27_code 50 = .ok (.ireturn, 1) := by decide +kernel
theorem d_Mod_placeWords_0 : decode prog_6_method_28_code 0 = .ok (.iconst 0, 1) := by decide +kernel
theorem d_Mod_placeWords_1 : decode prog_6_method_28_code 1 = .ok (.istore_n 1, 1) := by decide +kernel
theorem d_Mod_placeWords_2 : decode prog_6_method_28_code 2 = .ok (.iload_n 1, 1) := by decide +kernel
theorem d_Mod_placeWords_3 : decode prog_6_method_28_code 3 = .ok (.iconst 3, 1) := by decide +kernel
theorem d_Mod_placeWords_4 : decode prog_6_method_28_code 4 = .ok (.if_icmp .ge 16, 3) := by decide +kernel
theorem d_Mod_placeWords_7 : decode prog_6_method_28_code 7 = .ok (.aload_n 0, 1) := by decide +kernel
theorem d_Mod_placeWords_8 : decode prog_6_method_28_code 8 = .ok (.getfield 31, 3) := by decide +kernel
theorem d_Mod_placeWords_11 : decode prog_6_method_28_code 11 = .ok (.iload_n 1, 1) := by decide +kernel
theorem d_Mod_placeWords_12 : decode prog_6_method_28_code 12 = .ok (.iconst 0, 1) := by decide +kernel
theorem d_Mod_placeWords_13 : decode prog_6_method_28_code 13 = .ok (.iastore, 1) := by decide +kernel
theorem d_Mod_placeWords_14 : decode prog_6_method_28_code 14 = .ok (.iinc 1 1, 3) := by decide +kernel
theorem d_Mod_placeWords_17 : decode prog_6_method_28_code 17 = .ok (.goto (-15), 3) := by decide +kernel
theorem d_Mod_placeWords_20 : decode prog_6_method_28_code 20 = .ok (.iconst 0, 1) := by decide +kernel
theorem d_Mod_placeWords_21 : decode prog_6_method_28_code 21 = .ok (.istore_n 1, 1) := by decide +kernel
theorem d_Mod_placeWords_22 : decode prog_6_method_28_code 22 = .ok (.iload_n 1, 1) := by decide +kernel
theorem d_Mod_placeWords_23 : decode prog_6_method_28_code 23 = .ok (.aload_n 0, 1) := by decide +kernel
theorem d_Mod_placeWords_24 : decode prog_6_method_28_code 24 = .ok (.getfield 37, 3) := by decide +kernel
theorem d_Mod_placeWords_27 : decode prog_6_method_28_code 27 = .ok (.if_icmp .ge 42, 3) := by decide +kernel
theorem d_Mod_placeWords_30 : decode prog_6_method_28_code 30 = .ok (.aload_n 0, 1) := by decide +kernel
theorem d_Mod_placeWords_31 : decode prog_6_method_28_code 31 = .ok (.getfield 21, 3) := by decide +kernel
theorem d_Mod_placeWords_34 : decode prog_6_method_28_code 34 = .ok (.iload_n 1, 1) := by decide +kernel
theorem d_Mod_placeWords_35 : decode prog_6_method_28_code 35 = .ok (.iaload, 1) := by decide +kernel
theorem d_Mod_placeWords_36 : decode prog_6_method_28_code 36 = .ok (.istore_n 2, 1) := by decide +kernel
theorem d_Mod_placeWords_37 : decode prog_6_method_28_code 37 = .ok (.aload_n 0, 1) := by decide +kernel
theorem d_Mod_placeWords_38 : decode prog_6_method_28_code 38 = .ok (.getfield 24, 3) := by decide +kernel
theorem d_Mod_placeWords_41 : decode prog_6_method_28_code 41 = .ok (.iload_n 1, 1) := by decide +kernel
theorem d_Mod_placeWords_42 : decode prog_6_method_28_code 42 = .ok (.aload_n 0, 1) := by decide +kernel
theorem d_Mod_placeWords_43 : decode prog_6_method_28_code 43 = .ok (.getfield 31, 3) := by decide +kernel
theorem d_Mod_placeWords_46 : decode prog_6_method_28_code 46 = .ok (.iload_n 2, 1) := by decide +kernel
theorem d_Mod_placeWords_47 : decode prog_6_method_28_code 47 = .ok (.iaload, 1) := by decide +kernel
theorem d_Mod_placeWords_48 : decode prog_6_method_28_code 48 = .ok (.iastore, 1) := by decide +kernel
theorem d_Mod_placeWords_49 : decode prog_6_method_28_code 49 = .ok (.aload_n 0, 1) := by decide +kernel
theorem d_Mod_placeWords_50 : decode prog_6_method_28_code 50 = .ok (.getfield 31, 3) := by decide +kernel
theorem d_Mod_placeWords_53 : decode prog_6_method_28_code 53 = .ok (.iload_n 2, 1) := by decide +kernel
theorem d_Mod_placeWords_54 : decode prog_6_method_28_code 54 = .ok (.dup2, 1) := by decide +kernel
theorem d_Mod_placeWords_55 : decode prog_6_method_28_code 55 = .ok (.iaload, 1) := by decide +kernel
theorem d_Mod_placeWords_56 : decode prog_6_method_28_code 56 = .ok (.aload_n 0, 1) := by decide +kernel
theorem d_Mod_placeWords_57 : decode prog_6_method_28_code 57 = .ok (.iload_n 1, 1) := by decide +kernel
theorem d_Mod_placeWords_58 : decode prog_6_method_28_code 58 = .ok (.invokevirtual 108, 3) := by decide +kernel
theorem d_Mod_placeWords_61 : decode prog_6_method_28_code 61 = .ok (.iadd, 1) := by decide +kernel
theorem d_Mod_placeWords_62 : decode prog_6_method_28_code 62 = .ok (.iastore, 1) := by decide +kernel
theorem d_Mod_placeWords_63 : decode prog_6_method_28_code 63 = .ok (.iinc 1 1, 3) := by decide +kernel
theorem d_Mod_placeWords_66 : decode prog_6_method_28_code 66 = .ok (.goto (-44), 3) := by decide +kernel
theorem d_Mod_placeWords_69 : decode prog_6_method_28_code 69 = .ok (.return_, 1) := by decide +kernel
theorem d_Mod_wordsOf_0 : decode prog_6_method_29_code 0 = .ok (.aload_n 0, 1) := by decide +kernel
theorem d_Mod_wordsOf_1 : decode prog_6_method_29_code 1 = .ok (.getfield 9, 3) := by decide +kernel
theorem d_Mod_wordsOf_4 : decode prog_6_method_29_code 4 = .ok (.iload_n 1, 1) := by decide +kernel
theorem d_Mod_wordsOf_5 : decode prog_6_method_29_code 5 = .ok (.iaload, 1) := by decide +kernel
theorem d_Mod_wordsOf_6 : decode prog_6_method_29_code 6 = .ok (.tableswitch 54 3 6 #[30, 30, 32, 39], 30) := by decide +kernel
theorem d_Mod_wordsOf_36 : decode prog_6_method_29_code 36 = .ok (.iconst 1, 1) := by decide +kernel
theorem d_Mod_wordsOf_37 : decode prog_6_method_29_code 37 = .ok (.ireturn, 1) := by decide +kernel
theorem d_Mod_wordsOf_38 : decode prog_6_method_29_code 38 = .ok (.aload_n 0, 1) := by decide +kernel
theorem d_Mod_wordsOf_39 : decode prog_6_method_29_code 39 = .ok (.getfield 15, 3) := by decide +kernel
theorem d_Mod_wordsOf_42 : decode prog_6_method_29_code 42 = .ok (.iload_n 1, 1) := by decide +kernel
theorem d_Mod_wordsOf_43 : decode prog_6_method_29_code 43 = .ok (.iaload, 1) := by decide +kernel
theorem d_Mod_wordsOf_44 : decode prog_6_method_29_code 44 = .ok (.ireturn, 1) := by decide +kernel
theorem d_Mod_wordsOf_45 : decode prog_6_method_29_code 45 = .ok (.aload_n 0, 1) := by decide +kernel
theorem d_Mod_wordsOf_46 : decode prog_6_method_29_code 46 = .ok (.getfield 27, 3) := by decide +kernel
theorem d_Mod_wordsOf_49 : decode prog_6_method_29_code 49 = .ok (.iload_n 1, 1) := by decide +kernel
theorem d_Mod_wordsOf_50 : decode prog_6_method_29_code 50 = .ok (.baload, 1) := by decide +kernel
theorem d_Mod_wordsOf_51 : decode prog_6_method_29_code 51 = .ok (.ifCond .eq 7, 3) := by decide +kernel
theorem d_Mod_wordsOf_54 : decode prog_6_method_29_code 54 = .ok (.iconst 2, 1) := by decide +kernel
theorem d_Mod_wordsOf_55 : decode prog_6_method_29_code 55 = .ok (.goto 4, 3) := by decide +kernel
theorem d_Mod_wordsOf_58 : decode prog_6_method_29_code 58 = .ok (.iconst 1, 1) := by decide +kernel
theorem d_Mod_wordsOf_59 : decode prog_6_method_29_code 59 = .ok (.ireturn, 1) := by decide +kernel
theorem d_Mod_wordsOf_60 : decode prog_6_method_29_code 60 = .ok (.iconst 0, 1) := by decide +kernel
theorem d_Mod_wordsOf_61 : decode prog_6_method_29_code 61 = .ok (.ireturn, 1) := by decide +kernel
theorem d_Mod_lengthenFarJumps_0 : decode prog_6_method_30_code 0 = .ok (.iconst 0, 1) := by decide +kernel
theorem d_Mod_lengthenFarJumps_1 : decode prog_6_method_30_code 1 = .ok (.istore_n 1, 1) := by decide +kernel
theorem d_Mod_lengthenFarJumps_2 : decode prog_6_method_30_code 2 = .ok (.iconst 0, 1) := by decide +kernel
theorem d_Mod_lengthenFarJumps_3 : decode prog_6_method_30_code 3 = .ok (.istore_n 2, 1) := by decide +kernel
theorem d_Mod_lengthenFarJumps_4 : decode prog_6_method_30_code 4 = .ok (.iload_n 2, 1) := by decide +kernel
theorem d_Mod_lengthenFarJumps_5 : decode prog_6_method_30_code 5 = .ok (.aload_n 0, 1) := by decide +kernel
theorem d_Mod_lengthenFarJumps_6 : decode prog_6_method_30_code 6 = .ok (.getfield 37, 3) := by decide +kernel
theorem d_Mod_lengthenFarJumps_9 : decode prog_6_method_30_code 9 = .ok (.if_icmp .ge 53, 3) := by decide +kernel
theorem d_Mod_lengthenFarJumps_12 : decode prog_6_method_30_code 12 = .ok (.aload_n 0, 1) := by decide +kernel
theorem d_Mod_lengthenFarJumps_13 : decode prog_6_method_30_code 13 = .ok (.getfield 9, 3) := by decide +kernel
theorem d_Mod_lengthenFarJumps_16 : decode prog_6_method_30_code 16 = .ok (.iload_n 2, 1) := by decide +kernel
theorem d_Mod_lengthenFarJumps_17 : decode prog_6_method_30_code 17 = .ok (.iaload, 1) := by decide +kernel
theorem d_Mod_lengthenFarJumps_18 : decode prog_6_method_30_code 18 = .ok (.bipush 6, 2) := by decide +kernel
theorem d_Mod_lengthenFarJumps_20 : decode prog_6_method_30_code 20 = .ok (.if_icmp .ne 36, 3) := by decide +kernel
theorem d_Mod_lengthenFarJumps_23 : decode prog_6_method_30_code 23 = .ok (.aload_n 0, 1) := by decide +kernel
theorem d_Mod_lengthenFarJumps_24 : decode prog_6_method_30_code 24 = .ok (.getfield 27, 3) := by decide +kernel
theorem d_Mod_lengthenFarJumps_27 : decode prog_6_method_30_code 27 = .ok (.iload_n 2, 1) := by decide +kernel
theorem d_Mod_lengthenFarJumps_28 : decode prog_6_method_30_code 28 = .ok (.baload, 1) := by decide +kernel
theorem d_Mod_lengthenFarJumps_29 : decode prog_6_method_30_code 29 = .ok (.ifCond .ne 27, 3) := by decide +kernel
theorem d_Mod_lengthenFarJumps_32 : decode prog_6_method_30_code 32 = .ok (.aload_n 0, 1) := by decide +kernel
theorem d_Mod_lengthenFarJumps_33 : decode prog_6_method_30_code 33 = .ok (.iload_n 2, 1) := by decide +kernel
theorem d_Mod_lengthenFarJumps_34 : decode prog_6_method_30_code 34 = .ok (.invokevirtual 111, 3) := by decide +kernel
theorem d_Mod_lengthenFarJumps_37 : decode prog_6_method_30_code 37 = .ok (.bipush (-8), 2) := by decide +kernel
theorem d_Mod_lengthenFarJumps_39 : decode prog_6_method_30_code 39 = .ok (.bipush 7, 2) := by decide +kernel
theorem d_Mod_lengthenFarJumps_41 : decode prog_6_method_30_code 41 = .ok (.invokestatic 88, 3) := by decide +kernel
theorem d_Mod_lengthenFarJumps_44 : decode prog_6_method_30_code 44 = .ok (.ifCond .ne 12, 3) := by decide +kernel
theorem d_Mod_lengthenFarJumps_47 : decode prog_6_method_30_code 47 = .ok (.aload_n 0, 1) := by decide +kernel
theorem d_Mod_lengthenFarJumps_48 : decode prog_6_method_30_code 48 = .ok (.getfield 27, 3) := by decide +kernel
theorem d_Mod_lengthenFarJumps_51 : decode prog_6_method_30_code 51 = .ok (.iload_n 2, 1) := by decide +kernel
theorem d_Mod_lengthenFarJumps_52 : decode prog_6_method_30_code 52 = .ok (.iconst 1, 1) := by decide +kernel
theorem d_Mod_lengthenFarJumps_53 : decode prog_6_method_30_code 53 = .ok (.bastore, 1) := by decide +kernel
theorem d_Mod_lengthenFarJumps_54 : decode prog_6_method_30_code 54 = .ok (.iconst 1, 1) := by decide +kernel
theorem d_Mod_lengthenFarJumps_55 : decode prog_6_method_30_code 55 = .ok (.istore_n 1, 1) := by decide +kernel
theorem d_Mod_lengthenFarJumps_56 : decode prog_6_method_30_code 56 = .ok (.iinc 2 1, 3) := by decide +kernel
theorem d_Mod_lengthenFarJumps_59 : decode prog_6_method_30_code 59 = .ok (.goto (-55), 3) := by decide +kernel
theorem d_Mod_lengthenFarJumps_62 : decode prog_6_method_30_code 62 = .ok (.iload_n 1, 1) := by decide +kernel
theorem d_Mod_lengthenFarJumps_63 : decode prog_6_method_30_code 63 = .ok (.ireturn, 1) := by decide +kernel
theorem d_Law_law_0 : decode code 0 = .ok (.new 7, 3) := by decide +kernel
theorem d_Law_law_3 : decode code 3 = .ok (.dup, 1) := by decide +kernel
theorem d_Law_law_4 : decode code 4 = .ok (.invokespecial 9, 3) := by decide +kernel
theorem d_Law_law_7 : decode code 7 = .ok (.astore_n 1, 1) := by decide +kernel
theorem d_Law_law_8 : decode code 8 = .ok (.new 10, 3) := by decide +kernel
theorem d_Law_law_11 : decode code 11 = .ok (.dup, 1) := by decide +kernel
theorem d_Law_law_12 : decode code 12 = .ok (.invokespecial 12, 3) := by decide +kernel
theorem d_Law_law_15 : decode code 15 = .ok (.astore_n 2, 1) := by decide +kernel
theorem d_Law_law_16 : decode code 16 = .ok (.iconst 0, 1) := by decide +kernel
theorem d_Law_law_17 : decode code 17 = .ok (.istore_n 3, 1) := by decide +kernel
theorem d_Law_law_18 : decode code 18 = .ok (.iload_n 3, 1) := by decide +kernel
theorem d_Law_law_19 : decode code 19 = .ok (.aload_n 0, 1) := by decide +kernel
theorem d_Law_law_20 : decode code 20 = .ok (.arraylength, 1) := by decide +kernel
theorem d_Law_law_21 : decode code 21 = .ok (.iconst 5, 1) := by decide +kernel
theorem d_Law_law_22 : decode code 22 = .ok (.isub, 1) := by decide +kernel
theorem d_Law_law_23 : decode code 23 = .ok (.if_icmp .gt 616, 3) := by decide +kernel
theorem d_Law_law_26 : decode code 26 = .ok (.aload_n 0, 1) := by decide +kernel
theorem d_Law_law_27 : decode code 27 = .ok (.iload_n 3, 1) := by decide +kernel
theorem d_Law_law_28 : decode code 28 = .ok (.iaload, 1) := by decide +kernel
theorem d_Law_law_29 : decode code 29 = .ok (.bipush 31, 2) := by decide +kernel
theorem d_Law_law_31 : decode code 31 = .ok (.iand, 1) := by decide +kernel
theorem d_Law_law_32 : decode code 32 = .ok (.tableswitch 601 0 20 #[100, 153, 176, 209, 242, 275, 298, 321, 344, 355, 378, 401, 414, 437, 460, 483, 496, 509, 532, 555, 578], 100) := by decide +kernel
theorem d_Law_law_132 : decode code 132 = .ok (.aload_n 1, 1) := by decide +kernel
theorem d_Law_law_133 : decode code 133 = .ok (.aload_n 0, 1) := by decide +kernel
theorem d_Law_law_134 : decode code 134 = .ok (.iload_n 3, 1) := by decide +kernel
theorem d_Law_law_135 : decode code 135 = .ok (.iconst 1, 1) := by decide +kernel
theorem d_Law_law_136 : decode code 136 = .ok (.iadd, 1) := by decide +kernel
theorem d_Law_law_137 : decode code 137 = .ok (.iaload, 1) := by decide +kernel
theorem d_Law_law_138 : decode code 138 = .ok (.aload_n 0, 1) := by decide +kernel
theorem d_Law_law_139 : decode code 139 = .ok (.iload_n 3, 1) := by decide +kernel
theorem d_Law_law_140 : decode code 140 = .ok (.iconst 2, 1) := by decide +kernel
theorem d_Law_law_141 : decode code 141 = .ok (.iadd, 1) := by decide +kernel
theorem d_Law_law_142 : decode code 142 = .ok (.iaload, 1) := by decide +kernel
theorem d_Law_law_143 : decode code 143 = .ok (.aload_n 0, 1) := by decide +kernel
theorem d_Law_law_144 : decode code 144 = .ok (.iload_n 3, 1) := by decide +kernel
theorem d_Law_law_145 : decode code 145 = .ok (.iconst 3, 1) := by decide +kernel
theorem d_Law_law_146 : decode code 146 = .ok (.iadd, 1) := by decide +kernel
theorem d_Law_law_147 : decode code 147 = .ok (.iaload, 1) := by decide +kernel
theorem d_Law_law_148 : decode code 148 = .ok (.aload_n 0, 1) := by decide +kernel
theorem d_Law_law_149 : decode code 149 = .ok (.iload_n 3, 1) := by decide +kernel
theorem d_Law_law_150 : decode code 150 = .ok (.iconst 4, 1) := by decide +kernel
theorem d_Law_law_151 : decode code 151 = .ok (.iadd, 1) := by decide +kernel
theorem d_Law_law_152 : decode code 152 = .ok (.iaload, 1) := by decide +kernel
theorem d_Law_law_153 : decode code 153 = .ok (.invokevirtual 13, 3) := by decide +kernel
theorem d_Law_law_156 : decode code 156 = .ok (.aload_n 2, 1) := by decide +kernel
theorem d_Law_law_157 : decode code 157 = .ok (.aload_n 0, 1) := by decide +kernel
theorem d_Law_law_158 : decode code 158 = .ok (.iload_n 3, 1) := by decide +kernel
theorem d_Law_law_159 : decode code 159 = .ok (.iconst 1, 1) := by decide +kernel
theorem d_Law_law_160 : decode code 160 = .ok (.iadd, 1) := by decide +kernel
theorem d_Law_law_161 : decode code 161 = .ok (.iaload, 1) := by decide +kernel
theorem d_Law_law_162 : decode code 162 = .ok (.aload_n 0, 1) := by decide +kernel
theorem d_Law_law_163 : decode code 163 = .ok (.iload_n 3, 1) := by decide +kernel
theorem d_Law_law_164 : decode code 164 = .ok (.iconst 2, 1) := by decide +kernel
theorem d_Law_law_165 : decode code 165 = .ok (.iadd, 1) := by decide +kernel
theorem d_Law_law_166 : decode code 166 = .ok (.iaload, 1) := by decide +kernel
theorem d_Law_law_167 : decode code 167 = .ok (.aload_n 0, 1) := by decide +kernel
theorem d_Law_law_168 : decode code 168 = .ok (.iload_n 3, 1) := by decide +kernel
theorem d_Law_law_169 : decode code 169 = .ok (.iconst 3, 1) := by decide +kernel
theorem d_Law_law_170 : decode code 170 = .ok (.iadd, 1) := by decide +kernel
theorem d_Law_law_171 : decode code 171 = .ok (.iaload, 1) := by decide +kernel
theorem d_Law_law_172 : decode code 172 = .ok (.aload_n 0, 1) := by decide +kernel
theorem d_Law_law_173 : decode code 173 = .ok (.iload_n 3, 1) := by decide +kernel
theorem d_Law_law_174 : decode code 174 = .ok (.iconst 4, 1) := by decide +kernel
theorem d_Law_law_175 : decode code 175 = .ok (.iadd, 1) := by decide +kernel
theorem d_Law_law_176 : decode code 176 = .ok (.iaload, 1) := by decide +kernel
theorem d_Law_law_177 : decode code 177 = .ok (.invokevirtual 17, 3) := by decide +kernel
theorem d_Law_law_180 : decode code 180 = .ok (.if_icmp .eq 453, 3) := by decide +kernel
theorem d_Law_law_183 : decode code 183 = .ok (.iconst 0, 1) := by decide +kernel
theorem d_Law_law_184 : decode code 184 = .ok (.ireturn, 1) := by decide +kernel
theorem d_Law_law_185 : decode code 185 = .ok (.aload_n 1, 1) := by decide +kernel
theorem d_Law_law_186 : decode code 186 = .ok (.aload_n 0, 1) := by decide +kernel
theorem d_Law_law_187 : decode code 187 = .ok (.iload_n 3, 1) := by decide +kernel
theorem d_Law_law_188 : decode code 188 = .ok (.iconst 1, 1) := by decide +kernel
theorem d_Law_law_189 : decode code 189 = .ok (.iadd, 1) := by decide +kernel
theorem d_Law_law_190 : decode code 190 = .ok (.iaload, 1) := by decide +kernel
theorem d_Law_law_191 : decode code 191 = .ok (.invokevirtual 18, 3) := by decide +kernel
theorem d_Law_law_194 : decode code 194 = .ok (.aload_n 2, 1) := by decide +kernel
theorem d_Law_law_195 : decode code 195 = .ok (.aload_n 0, 1) := by decide +kernel
theorem d_Law_law_196 : decode code 196 = .ok (.iload_n 3, 1) := by decide +kernel
theorem d_Law_law_197 : decode code 197 = .ok (.iconst 1, 1) := by decide +kernel
theorem d_Law_law_198 : decode code 198 = .ok (.iadd, 1) := by decide +kernel
theorem d_Law_law_199 : decode code 199 = .ok (.iaload, 1) := by decide +kernel
theorem d_Law_law_200 : decode code 200 = .ok (.invokevirtual 22, 3) := by decide +kernel
theorem d_Law_law_203 : decode code 203 = .ok (.if_icmp .eq 430, 3) := by decide +kernel
theorem d_Law_law_206 : decode code 206 = .ok (.iconst 0, 1) := by decide +kernel
theorem d_Law_law_207 : decode code 207 = .ok (.ireturn, 1) := by decide +kernel
theorem d_Law_law_208 : decode code 208 = .ok (.aload_n 1, 1) := by decide +kernel
theorem d_Law_law_209 : decode code 209 = .ok (.aload_n 0, 1) := by decide +kernel
theorem d_Law_law_210 : decode code 210 = .ok (.iload_n 3, 1) := by decide +kernel
theorem d_Law_law_211 : decode code 211 = .ok (.iconst 1, 1) := by decide +kernel
theorem d_Law_law_212 : decode code 212 = .ok (.iadd, 1) := by decide +kernel
theorem d_Law_law_213 : decode code 213 = .ok (.iaload, 1) := by decide +kernel
theorem d_Law_law_214 : decode code 214 = .ok (.aload_n 0, 1) := by decide +kernel
theorem d_Law_law_215 : decode code 215 = .ok (.iload_n 3, 1) := by decide +kernel
theorem d_Law_law_216 : decode code 216 = .ok (.iconst 2, 1) := by decide +kernel
theorem d_Law_law_217 : decode code 217 = .ok (.iadd, 1) := by decide +kernel
theorem d_Law_law_218 : decode code 218 = .ok (.iaload, 1) := by decide +kernel
theorem d_Law_law_219 : decode code 219 = .ok (.invokevirtual 23, 3) := by decide +kernel
theorem d_Law_law_222 : decode code 222 = .ok (.aload_n 2, 1) := by decide +kernel
theorem d_Law_law_223 : decode code 223 = .ok (.aload_n 0, 1) := by decide +kernel
theorem d_Law_law_224 : decode code 224 = .ok (.iload_n 3, 1) := by decide +kernel
theorem d_Law_law_225 : decode code 225 = .ok (.iconst 1, 1) := by decide +kernel
theorem d_Law_law_226 : decode code 226 = .ok (.iadd, 1) := by decide +kernel
theorem d_Law_law_227 : decode code 227 = .ok (.iaload, 1) := by decide +kernel
theorem d_Law_law_228 : decode code 228 = .ok (.aload_n 0, 1) := by decide +kernel
theorem d_Law_law_229 : decode code 229 = .ok (.iload_n 3, 1) := by decide +kernel
theorem d_Law_law_230 : decode code 230 = .ok (.iconst 2, 1) := by decide +kernel
theorem d_Law_law_231 : decode code 231 = .ok (.iadd, 1) := by decide +kernel
theorem d_Law_law_232 : decode code 232 = .ok (.iaload, 1) := by decide +kernel
theorem d_Law_law_233 : decode code 233 = .ok (.invokevirtual 27, 3) := by decide +kernel
theorem d_Law_law_236 : decode code 236 = .ok (.if_icmp .eq 397, 3) := by decide +kernel
theorem d_Law_law_239 : decode code 239 = .ok (.iconst 0, 1) := by decide +kernel
theorem d_Law_law_240 : decode code 240 = .ok (.ireturn, 1) := by decide +kernel
theorem d_Law_law_241 : decode code 241 = .ok (.aload_n 1, 1) := by decide +kernel
theorem d_Law_law_242 : decode code 242 = .ok (.aload_n 0, 1) := by decide +kernel
theorem d_Law_law_243 : decode code 243 = .ok (.iload_n 3, 1) := by decide +kernel
theorem d_Law_law_244 : decode code 244 = .ok (.iconst 1, 1) := by decide +kernel
theorem d_Law_law_245 : decode code 245 = .ok (.iadd, 1) := by decide +kernel
theorem d_Law_law_246 : decode code 246 = .ok (.iaload, 1) := by decide +kernel
theorem d_Law_law_247 : decode code 247 = .ok (.aload_n 0, 1) := by decide +kernel
theorem d_Law_law_248 : decode code 248 = .ok (.iload_n 3, 1) := by decide +kernel
theorem d_Law_law_249 : decode code 249 = .ok (.iconst 2, 1) := by decide +kernel
theorem d_Law_law_250 : decode code 250 = .ok (.iadd, 1) := by decide +kernel
theorem d_Law_law_251 : decode code 251 = .ok (.iaload, 1) := by decide +kernel
theorem d_Law_law_252 : decode code 252 = .ok (.invokevirtual 28, 3) := by decide +kernel
theorem d_Law_law_255 : decode code 255 = .ok (.aload_n 2, 1) := by decide +kernel
theorem d_Law_law_256 : decode code 256 = .ok (.aload_n 0, 1) := by decide +kernel
theorem d_Law_law_257 : decode code 257 = .ok (.iload_n 3, 1) := by decide +kernel
theorem d_Law_law_258 : decode code 258 = .ok (.iconst 1, 1) := by decide +kernel
theorem d_Law_law_259 : decode code 259 = .ok (.iadd, 1) := by decide +kernel
theorem d_Law_law_260 : decode code 260 = .ok (.iaload, 1) := by decide +kernel
theorem d_Law_law_261 : decode code 261 = .ok (.aload_n 0, 1) := by decide +kernel
theorem d_Law_law_262 : decode code 262 = .ok (.iload_n 3, 1) := by decide +kernel
theorem d_Law_law_263 : decode code 263 = .ok (.iconst 2, 1) := by decide +kernel
theorem d_Law_law_264 : decode code 264 = .ok (.iadd, 1) := by decide +kernel
theorem d_Law_law_265 : decode code 265 = .ok (.iaload, 1) := by decide +kernel
theorem d_Law_law_266 : decode code 266 = .ok (.invokevirtual 32, 3) := by decide +kernel
theorem d_Law_law_269 : decode code 269 = .ok (.if_icmp .eq 364, 3) := by decide +kernel
theorem d_Law_law_272 : decode code 272 = .ok (.iconst 0, 1) := by decide +kernel
theorem d_Law_law_273 : decode code 273 = .ok (.ireturn, 1) := by decide +kernel
theorem d_Law_law_274 : decode code 274 = .ok (.aload_n 1, 1) := by decide +kernel
theorem d_Law_law_275 : decode code 275 = .ok (.aload_n 0, 1) := by decide +kernel
theorem d_Law_law_276 : decode code 276 = .ok (.iload_n 3, 1) := by decide +kernel
theorem d_Law_law_277 : decode code 277 = .ok (.iconst 1, 1) := by decide +kernel
theorem d_Law_law_278 : decode code 278 = .ok (.iadd, 1) := by decide +kernel
theorem d_Law_law_279 : decode code 279 = .ok (.iaload, 1) := by decide +kernel
theorem d_Law_law_280 : decode code 280 = .ok (.aload_n 0, 1) := by decide +kernel
theorem d_Law_law_281 : decode code 281 = .ok (.iload_n 3, 1) := by decide +kernel
theorem d_Law_law_282 : decode code 282 = .ok (.iconst 2, 1) := by decide +kernel
theorem d_Law_law_283 : decode code 283 = .ok (.iadd, 1) := by decide +kernel
theorem d_Law_law_284 : decode code 284 = .ok (.iaload, 1) := by decide +kernel
theorem d_Law_law_285 : decode code 285 = .ok (.invokevirtual 33, 3) := by decide +kernel
theorem d_Law_law_288 : decode code 288 = .ok (.aload_n 2, 1) := by decide +kernel
theorem d_Law_law_289 : decode code 289 = .ok (.aload_n 0, 1) := by decide +kernel
theorem d_Law_law_290 : decode code 290 = .ok (.iload_n 3, 1) := by decide +kernel
theorem d_Law_law_291 : decode code 291 = .ok (.iconst 1, 1) := by decide +kernel
theorem d_Law_law_292 : decode code 292 = .ok (.iadd, 1) := by decide +kernel
theorem d_Law_law_293 : decode code 293 = .ok (.iaload, 1) := by decide +kernel
theorem d_Law_law_294 : decode code 294 = .ok (.aload_n 0, 1) := by decide +kernel
theorem d_Law_law_295 : decode code 295 = .ok (.iload_n 3, 1) := by decide +kernel
theorem d_Law_law_296 : decode code 296 = .ok (.iconst 2, 1) := by decide +kernel
theorem d_Law_law_297 : decode code 297 = .ok (.iadd, 1) := by decide +kernel
theorem d_Law_law_298 : decode code 298 = .ok (.iaload, 1) := by decide +kernel
theorem d_Law_law_299 : decode code 299 = .ok (.invokevirtual 36, 3) := by decide +kernel
theorem d_Law_law_302 : decode code 302 = .ok (.if_icmp .eq 331, 3) := by decide +kernel
theorem d_Law_law_305 : decode code 305 = .ok (.iconst 0, 1) := by decide +kernel
theorem d_Law_law_306 : decode code 306 = .ok (.ireturn, 1) := by decide +kernel
theorem d_Law_law_307 : decode code 307 = .ok (.aload_n 1, 1) := by decide +kernel
theorem d_Law_law_308 : decode code 308 = .ok (.aload_n 0, 1) := by decide +kernel
theorem d_Law_law_309 : decode code 309 = .ok (.iload_n 3, 1) := by decide +kernel
theorem d_Law_law_310 : decode code 310 = .ok (.iconst 1, 1) := by decide +kernel
theorem d_Law_law_311 : decode code 311 = .ok (.iadd, 1) := by decide +kernel
theorem d_Law_law_312 : decode code 312 = .ok (.iaload, 1) := by decide +kernel
theorem d_Law_law_313 : decode code 313 = .ok (.invokevirtual 37, 3) := by decide +kernel
theorem d_Law_law_316 : decode code 316 = .ok (.aload_n 2, 1) := by decide +kernel
theorem d_Law_law_317 : decode code 317 = .ok (.aload_n 0, 1) := by decide +kernel
theorem d_Law_law_318 : decode code 318 = .ok (.iload_n 3, 1) := by decide +kernel
theorem d_Law_law_319 : decode code 319 = .ok (.iconst 1, 1) := by decide +kernel
theorem d_Law_law_320 : decode code 320 = .ok (.iadd, 1) := by decide +kernel
theorem d_Law_law_321 : decode code 321 = .ok (.iaload, 1) := by decide +kernel
theorem d_Law_law_322 : decode code 322 = .ok (.invokevirtual 41, 3) := by decide +kernel
theorem d_Law_law_325 : decode code 325 = .ok (.if_icmp .eq 308, 3) := by decide +kernel
theorem d_Law_law_328 : decode code 328 = .ok (.iconst 0, 1) := by decide +kernel
theorem d_Law_law_329 : decode code 329 = .ok (.ireturn, 1) := by decide +kernel
theorem d_Law_law_330 : decode code 330 = .ok (.aload_n 1, 1) := by decide +kernel
theorem d_Law_law_331 : decode code 331 = .ok (.aload_n 0, 1) := by decide +kernel
theorem d_Law_law_332 : decode code 332 = .ok (.iload_n 3, 1) := by decide +kernel
theorem d_Law_law_333 : decode code 333 = .ok (.iconst 1, 1) := by decide +kernel
theorem d_Law_law_334 : decode code 334 = .ok (.iadd, 1) := by decide +kernel
theorem d_Law_law_335 : decode code 335 = .ok (.iaload, 1) := by decide +kernel
theorem d_Law_law_336 : decode code 336 = .ok (.invokevirtual 42, 3) := by decide +kernel
theorem d_Law_law_339 : decode code 339 = .ok (.aload_n 2, 1) := by decide +kernel
theorem d_Law_law_340 : decode code 340 = .ok (.aload_n 0, 1) := by decide +kernel
theorem d_Law_law_341 : decode code 341 = .ok (.iload_n 3, 1) := by decide +kernel
theorem d_Law_law_342 : decode code 342 = .ok (.iconst 1, 1) := by decide +kernel
theorem d_Law_law_343 : decode code 343 = .ok (.iadd, 1) := by decide +kernel
theorem d_Law_law_344 : decode code 344 = .ok (.iaload, 1) := by decide +kernel
theorem d_Law_law_345 : decode code 345 = .ok (.invokevirtual 45, 3) := by decide +kernel
theorem d_Law_law_348 : decode code 348 = .ok (.if_icmp .eq 285, 3) := by decide +kernel
theorem d_Law_law_351 : decode code 351 = .ok (.iconst 0, 1) := by decide +kernel
theorem d_Law_law_352 : decode code 352 = .ok (.ireturn, 1) := by decide +kernel
theorem d_Law_law_353 : decode code 353 = .ok (.aload_n 1, 1) := by decide +kernel
theorem d_Law_law_354 : decode code 354 = .ok (.aload_n 0, 1) := by decide +kernel
theorem d_Law_law_355 : decode code 355 = .ok (.iload_n 3, 1) := by decide +kernel
theorem d_Law_law_356 : decode code 356 = .ok (.iconst 1, 1) := by decide +kernel
theorem d_Law_law_357 : decode code 357 = .ok (.iadd, 1) := by decide +kernel
theorem d_Law_law_358 : decode code 358 = .ok (.iaload, 1) := by decide +kernel
theorem d_Law_law_359 : decode code 359 = .ok (.invokevirtual 46, 3) := by decide +kernel
theorem d_Law_law_362 : decode code 362 = .ok (.aload_n 2, 1) := by decide +kernel
theorem d_Law_law_363 : decode code 363 = .ok (.aload_n 0, 1) := by decide +kernel
theorem d_Law_law_364 : decode code 364 = .ok (.iload_n 3, 1) := by decide +kernel
theorem d_Law_law_365 : decode code 365 = .ok (.iconst 1, 1) := by decide +kernel
theorem d_Law_law_366 : decode code 366 = .ok (.iadd, 1) := by decide +kernel
theorem d_Law_law_367 : decode code 367 = .ok (.iaload, 1) := by decide +kernel
theorem d_Law_law_368 : decode code 368 = .ok (.invokevirtual 49, 3) := by decide +kernel
theorem d_Law_law_371 : decode code 371 = .ok (.if_icmp .eq 262, 3) := by decide +kernel
theorem d_Law_law_374 : decode code 374 = .ok (.iconst 0, 1) := by decide +kernel
theorem d_Law_law_375 : decode code 375 = .ok (.ireturn, 1) := by decide +kernel
theorem d_Law_law_376 : decode code 376 = .ok (.aload_n 1, 1) := by decide +kernel
theorem d_Law_law_377 : decode code 377 = .ok (.invokevirtual 50, 3) := by decide +kernel
theorem d_Law_law_380 : decode code 380 = .ok (.aload_n 2, 1) := by decide +kernel
theorem d_Law_law_381 : decode code 381 = .ok (.invokevirtual 53, 3) := by decide +kernel
theorem d_Law_law_384 : decode code 384 = .ok (.goto 249, 3) := by decide +kernel
theorem d_Law_law_387 : decode code 387 = .ok (.aload_n 1, 1) := by decide +kernel
theorem d_Law_law_388 : decode code 388 = .ok (.aload_n 0, 1) := by decide +kernel
theorem d_Law_law_389 : decode code 389 = .ok (.iload_n 3, 1) := by decide +kernel
theorem d_Law_law_390 : decode code 390 = .ok (.iconst 1, 1) := by decide +kernel
theorem d_Law_law_391 : decode code 391 = .ok (.iadd, 1) := by decide +kernel
theorem d_Law_law_392 : decode code 392 = .ok (.iaload, 1) := by decide +kernel
theorem d_Law_law_393 : decode code 393 = .ok (.invokevirtual 54, 3) := by decide +kernel
theorem d_Law_law_396 : decode code 396 = .ok (.aload_n 2, 1) := by decide +kernel
theorem d_Law_law_397 : decode code 397 = .ok (.aload_n 0, 1) := by decide +kernel
theorem d_Law_law_398 : decode code 398 = .ok (.iload_n 3, 1) := by decide +kernel
theorem d_Law_law_399 : decode code 399 = .ok (.iconst 1, 1) := by decide +kernel
theorem d_Law_law_400 : decode code 400 = .ok (.iadd, 1) := by decide +kernel
theorem d_Law_law_401 : decode code 401 = .ok (.iaload, 1) := by decide +kernel
theorem d_Law_law_402 : decode code 402 = .ok (.invokevirtual 57, 3) := by decide +kernel
theorem d_Law_law_405 : decode code 405 = .ok (.if_icmp .eq 228, 3) := by decide +kernel
theorem d_Law_law_408 : decode code 408 = .ok (.iconst 0, 1) := by decide +kernel
theorem d_Law_law_409 : decode code 409 = .ok (.ireturn, 1) := by decide +kernel
theorem d_Law_law_410 : decode code 410 = .ok (.aload_n 1, 1) := by decide +kernel
theorem d_Law_law_411 : decode code 411 = .ok (.aload_n 0, 1) := by decide +kernel
theorem d_Law_law_412 : decode code 412 = .ok (.iload_n 3, 1) := by decide +kernel
theorem d_Law_law_413 : decode code 413 = .ok (.iconst 1, 1) := by decide +kernel
theorem d_Law_law_414 : decode code 414 = .ok (.iadd, 1) := by decide +kernel
theorem d_Law_law_415 : decode code 415 = .ok (.iaload, 1) := by decide +kernel
theorem d_Law_law_416 : decode code 416 = .ok (.invokevirtual 58, 3) := by decide +kernel
theorem d_Law_law_419 : decode code 419 = .ok (.aload_n 2, 1) := by decide +kernel
theorem d_Law_law_420 : decode code 420 = .ok (.aload_n 0, 1) := by decide +kernel
theorem d_Law_law_421 : decode code 421 = .ok (.iload_n 3, 1) := by decide +kernel
theorem d_Law_law_422 : decode code 422 = .ok (.iconst 1, 1) := by decide +kernel
theorem d_Law_law_423 : decode code 423 = .ok (.iadd, 1) := by decide +kernel
theorem d_Law_law_424 : decode code 424 = .ok (.iaload, 1) := by decide +kernel
theorem d_Law_law_425 : decode code 425 = .ok (.invokevirtual 61, 3) := by decide +kernel
theorem d_Law_law_428 : decode code 428 = .ok (.if_icmp .eq 205, 3) := by decide +kernel
theorem d_Law_law_431 : decode code 431 = .ok (.iconst 0, 1) := by decide +kernel
theorem d_Law_law_432 : decode code 432 = .ok (.ireturn, 1) := by decide +kernel
theorem d_Law_law_433 : decode code 433 = .ok (.aload_n 1, 1) := by decide +kernel
theorem d_Law_law_434 : decode code 434 = .ok (.invokevirtual 62, 3) := by decide +kernel
theorem d_Law_law_437 : decode code 437 = .ok (.aload_n 2, 1) := by decide +kernel
theorem d_Law_law_438 : decode code 438 = .ok (.invokevirtual 66, 3) := by decide +kernel
theorem d_Law_law_441 : decode code 441 = .ok (.if_icmp .eq 192, 3) := by decide +kernel
theorem d_Law_law_444 : decode code 444 = .ok (.iconst 0, 1) := by decide +kernel
theorem d_Law_law_445 : decode code 445 = .ok (.ireturn, 1) := by decide +kernel
theorem d_Law_law_446 : decode code 446 = .ok (.aload_n 1, 1) := by decide +kernel
theorem d_Law_law_447 : decode code 447 = .ok (.aload_n 0, 1) := by decide +kernel
theorem d_Law_law_448 : decode code 448 = .ok (.iload_n 3, 1) := by decide +kernel
theorem d_Law_law_449 : decode code 449 = .ok (.iconst 1, 1) := by decide +kernel
theorem d_Law_law_450 : decode code 450 = .ok (.iadd, 1) := by decide +kernel
theorem d_Law_law_451 : decode code 451 = .ok (.iaload, 1) := by decide +kernel
theorem d_Law_law_452 : decode code 452 = .ok (.invokevirtual 67, 3) := by decide +kernel
theorem d_Law_law_455 : decode code 455 = .ok (.aload_n 2, 1) := by decide +kernel
theorem d_Law_law_456 : decode code 456 = .ok (.aload_n 0, 1) := by decide +kernel
theorem d_Law_law_457 : decode code 457 = .ok (.iload_n 3, 1) := by decide +kernel
theorem d_Law_law_458 : decode code 458 = .ok (.iconst 1, 1) := by decide +kernel
theorem d_Law_law_459 : decode code 459 = .ok (.iadd, 1) := by decide +kernel
theorem d_Law_law_460 : decode code 460 = .ok (.iaload, 1) := by decide +kernel
theorem d_Law_law_461 : decode code 461 = .ok (.invokevirtual 70, 3) := by decide +kernel
theorem d_Law_law_464 : decode code 464 = .ok (.if_icmp .eq 169, 3) := by decide +kernel
theorem d_Law_law_467 : decode code 467 = .ok (.iconst 0, 1) := by decide +kernel
theorem d_Law_law_468 : decode code 468 = .ok (.ireturn, 1) := by decide +kernel
theorem d_Law_law_469 : decode code 469 = .ok (.aload_n 1, 1) := by decide +kernel
theorem d_Law_law_470 : decode code 470 = .ok (.aload_n 0, 1) := by decide +kernel
theorem d_Law_law_471 : decode code 471 = .ok (.iload_n 3, 1) := by decide +kernel
theorem d_Law_law_472 : decode code 472 = .ok (.iconst 1, 1) := by decide +kernel
theorem d_Law_law_473 : decode code 473 = .ok (.iadd, 1) := by decide +kernel
theorem d_Law_law_474 : decode code 474 = .ok (.iaload, 1) := by decide +kernel
theorem d_Law_law_475 : decode code 475 = .ok (.invokevirtual 71, 3) := by decide +kernel
theorem d_Law_law_478 : decode code 478 = .ok (.aload_n 2, 1) := by decide +kernel
theorem d_Law_law_479 : decode code 479 = .ok (.aload_n 0, 1) := by decide +kernel
theorem d_Law_law_480 : decode code 480 = .ok (.iload_n 3, 1) := by decide +kernel
theorem d_Law_law_481 : decode code 481 = .ok (.iconst 1, 1) := by decide +kernel
theorem d_Law_law_482 : decode code 482 = .ok (.iadd, 1) := by decide +kernel
theorem d_Law_law_483 : decode code 483 = .ok (.iaload, 1) := by decide +kernel
theorem d_Law_law_484 : decode code 484 = .ok (.invokevirtual 74, 3) := by decide +kernel
theorem d_Law_law_487 : decode code 487 = .ok (.if_icmp .eq 146, 3) := by decide +kernel
theorem d_Law_law_490 : decode code 490 = .ok (.iconst 0, 1) := by decide +kernel
theorem d_Law_law_491 : decode code 491 = .ok (.ireturn, 1) := by decide +kernel
theorem d_Law_law_492 : decode code 492 = .ok (.aload_n 1, 1) := by decide +kernel
theorem d_Law_law_493 : decode code 493 = .ok (.aload_n 0, 1) := by decide +kernel
theorem d_Law_law_494 : decode code 494 = .ok (.iload_n 3, 1) := by decide +kernel
theorem d_Law_law_495 : decode code 495 = .ok (.iconst 1, 1) := by decide +kernel
theorem d_Law_law_496 : decode code 496 = .ok (.iadd, 1) := by decide +kernel
theorem d_Law_law_497 : decode code 497 = .ok (.iaload, 1) := by decide +kernel
theorem d_Law_law_498 : decode code 498 = .ok (.invokevirtual 75, 3) := by decide +kernel
theorem d_Law_law_501 : decode code 501 = .ok (.aload_n 2, 1) := by decide +kernel
theorem d_Law_law_502 : decode code 502 = .ok (.aload_n 0, 1) := by decide +kernel
theorem d_Law_law_503 : decode code 503 = .ok (.iload_n 3, 1) := by decide +kernel
theorem d_Law_law_504 : decode code 504 = .ok (.iconst 1, 1) := by decide +kernel
theorem d_Law_law_505 : decode code 505 = .ok (.iadd, 1) := by decide +kernel
theorem d_Law_law_506 : decode code 506 = .ok (.iaload, 1) := by decide +kernel
theorem d_Law_law_507 : decode code 507 = .ok (.invokevirtual 78, 3) := by decide +kernel
theorem d_Law_law_510 : decode code 510 = .ok (.if_icmp .eq 123, 3) := by decide +kernel
theorem d_Law_law_513 : decode code 513 = .ok (.iconst 0, 1) := by decide +kernel
theorem d_Law_law_514 : decode code 514 = .ok (.ireturn, 1) := by decide +kernel
theorem d_Law_law_515 : decode code 515 = .ok (.aload_n 1, 1) := by decide +kernel
theorem d_Law_law_516 : decode code 516 = .ok (.invokevirtual 79, 3) := by decide +kernel
theorem d_Law_law_519 : decode code 519 = .ok (.aload_n 2, 1) := by decide +kernel
theorem d_Law_law_520 : decode code 520 = .ok (.invokevirtual 83, 3) := by decide +kernel
theorem d_Law_law_523 : decode code 523 = .ok (.if_icmp .eq 110, 3) := by decide +kernel
theorem d_Law_law_526 : decode code 526 = .ok (.iconst 0, 1) := by decide +kernel
theorem d_Law_law_527 : decode code 527 = .ok (.ireturn, 1) := by decide +kernel
theorem d_Law_law_528 : decode code 528 = .ok (.aload_n 1, 1) := by decide +kernel
theorem d_Law_law_529 : decode code 529 = .ok (.invokevirtual 84, 3) := by decide +kernel
theorem d_Law_law_532 : decode code 532 = .ok (.aload_n 2, 1) := by decide +kernel
theorem d_Law_law_533 : decode code 533 = .ok (.invokevirtual 87, 3) := by decide +kernel
theorem d_Law_law_536 : decode code 536 = .ok (.if_icmp .eq 97, 3) := by decide +kernel
theorem d_Law_law_539 : decode code 539 = .ok (.iconst 0, 1) := by decide +kernel
theorem d_Law_law_540 : decode code 540 = .ok (.ireturn, 1) := by decide +kernel
theorem d_Law_law_541 : decode code 541 = .ok (.aload_n 1, 1) := by decide +kernel
theorem d_Law_law_542 : decode code 542 = .ok (.aload_n 0, 1) := by decide +kernel
theorem d_Law_law_543 : decode code 543 = .ok (.iload_n 3, 1) := by decide +kernel
theorem d_Law_law_544 : decode code 544 = .ok (.iconst 1, 1) := by decide +kernel
theorem d_Law_law_545 : decode code 545 = .ok (.iadd, 1) := by decide +kernel
theorem d_Law_law_546 : decode code 546 = .ok (.iaload, 1) := by decide +kernel
theorem d_Law_law_547 : decode code 547 = .ok (.invokevirtual 88, 3) := by decide +kernel
theorem d_Law_law_550 : decode code 550 = .ok (.aload_n 2, 1) := by decide +kernel
theorem d_Law_law_551 : decode code 551 = .ok (.aload_n 0, 1) := by decide +kernel
theorem d_Law_law_552 : decode code 552 = .ok (.iload_n 3, 1) := by decide +kernel
theorem d_Law_law_553 : decode code 553 = .ok (.iconst 1, 1) := by decide +kernel
theorem d_Law_law_554 : decode code 554 = .ok (.iadd, 1) := by decide +kernel
theorem d_Law_law_555 : decode code 555 = .ok (.iaload, 1) := by decide +kernel
theorem d_Law_law_556 : decode code 556 = .ok (.invokevirtual 91, 3) := by decide +kernel
theorem d_Law_law_559 : decode code 559 = .ok (.if_icmp .eq 74, 3) := by decide +kernel
theorem d_Law_law_562 : decode code 562 = .ok (.iconst 0, 1) := by decide +kernel
theorem d_Law_law_563 : decode code 563 = .ok (.ireturn, 1) := by decide +kernel
theorem d_Law_law_564 : decode code 564 = .ok (.aload_n 1, 1) := by decide +kernel
theorem d_Law_law_565 : decode code 565 = .ok (.aload_n 0, 1) := by decide +kernel
theorem d_Law_law_566 : decode code 566 = .ok (.iload_n 3, 1) := by decide +kernel
theorem d_Law_law_567 : decode code 567 = .ok (.iconst 1, 1) := by decide +kernel
theorem d_Law_law_568 : decode code 568 = .ok (.iadd, 1) := by decide +kernel
theorem d_Law_law_569 : decode code 569 = .ok (.iaload, 1) := by decide +kernel
theorem d_Law_law_570 : decode code 570 = .ok (.invokevirtual 92, 3) := by decide +kernel
theorem d_Law_law_573 : decode code 573 = .ok (.aload_n 2, 1) := by decide +kernel
theorem d_Law_law_574 : decode code 574 = .ok (.aload_n 0, 1) := by decide +kernel
theorem d_Law_law_575 : decode code 575 = .ok (.iload_n 3, 1) := by decide +kernel
theorem d_Law_law_576 : decode code 576 = .ok (.iconst 1, 1) := by decide +kernel
theorem d_Law_law_577 : decode code 577 = .ok (.iadd, 1) := by decide +kernel
theorem d_Law_law_578 : decode code 578 = .ok (.iaload, 1) := by decide +kernel
theorem d_Law_law_579 : decode code 579 = .ok (.invokevirtual 95, 3) := by decide +kernel
theorem d_Law_law_582 : decode code 582 = .ok (.if_icmp .eq 51, 3) := by decide +kernel
theorem d_Law_law_585 : decode code 585 = .ok (.iconst 0, 1) := by decide +kernel
theorem d_Law_law_586 : decode code 586 = .ok (.ireturn, 1) := by decide +kernel
theorem d_Law_law_587 : decode code 587 = .ok (.aload_n 1, 1) := by decide +kernel
theorem d_Law_law_588 : decode code 588 = .ok (.aload_n 0, 1) := by decide +kernel
theorem d_Law_law_589 : decode code 589 = .ok (.iload_n 3, 1) := by decide +kernel
theorem d_Law_law_590 : decode code 590 = .ok (.iconst 1, 1) := by decide +kernel
theorem d_Law_law_591 : decode code 591 = .ok (.iadd, 1) := by decide +kernel
theorem d_Law_law_592 : decode code 592 = .ok (.iaload, 1) := by decide +kernel
theorem d_Law_law_593 : decode code 593 = .ok (.invokevirtual 96, 3) := by decide +kernel
theorem d_Law_law_596 : decode code 596 = .ok (.aload_n 2, 1) := by decide +kernel
theorem d_Law_law_597 : decode code 597 = .ok (.aload_n 0, 1) := by decide +kernel
theorem d_Law_law_598 : decode code 598 = .ok (.iload_n 3, 1) := by decide +kernel
theorem d_Law_law_599 : decode code 599 = .ok (.iconst 1, 1) := by decide +kernel
theorem d_Law_law_600 : decode code 600 = .ok (.iadd, 1) := by decide +kernel
theorem d_Law_law_601 : decode code 601 = .ok (.iaload, 1) := by decide +kernel
theorem d_Law_law_602 : decode code 602 = .ok (.invokevirtual 99, 3) := by decide +kernel
theorem d_Law_law_605 : decode code 605 = .ok (.if_icmp .eq 28, 3) := by decide +kernel
theorem d_Law_law_608 : decode code 608 = .ok (.iconst 0, 1) := by decide +kernel
theorem d_Law_law_609 : decode code 609 = .ok (.ireturn, 1) := by decide +kernel
theorem d_Law_law_610 : decode code 610 = .ok (.aload_n 1, 1) := by decide +kernel
theorem d_Law_law_611 : decode code 611 = .ok (.aload_n 0, 1) := by decide +kernel
theorem d_Law_law_612 : decode code 612 = .ok (.iload_n 3, 1) := by decide +kernel
theorem d_Law_law_613 : decode code 613 = .ok (.iconst 1, 1) := by decide +kernel
theorem d_Law_law_614 : decode code 614 = .ok (.iadd, 1) := by decide +kernel
theorem d_Law_law_615 : decode code 615 = .ok (.iaload, 1) := by decide +kernel
theorem d_Law_law_616 : decode code 616 = .ok (.invokevirtual 100, 3) := by decide +kernel
theorem d_Law_law_619 : decode code 619 = .ok (.aload_n 2, 1) := by decide +kernel
theorem d_Law_law_620 : decode code 620 = .ok (.aload_n 0, 1) := by decide +kernel
theorem d_Law_law_621 : decode code 621 = .ok (.iload_n 3, 1) := by decide +kernel
theorem d_Law_law_622 : decode code 622 = .ok (.iconst 1, 1) := by decide +kernel
theorem d_Law_law_623 : decode code 623 = .ok (.iadd, 1) := by decide +kernel
theorem d_Law_law_624 : decode code 624 = .ok (.iaload, 1) := by decide +kernel
theorem d_Law_law_625 : decode code 625 = .ok (.invokevirtual 103, 3) := by decide +kernel
theorem d_Law_law_628 : decode code 628 = .ok (.if_icmp .eq 5, 3) := by decide +kernel
theorem d_Law_law_631 : decode code 631 = .ok (.iconst 0, 1) := by decide +kernel
theorem d_Law_law_632 : decode code 632 = .ok (.ireturn, 1) := by decide +kernel
theorem d_Law_law_633 : decode code 633 = .ok (.iinc 3 5, 3) := by decide +kernel
theorem d_Law_law_636 : decode code 636 = .ok (.goto (-618), 3) := by decide +kernel
theorem d_Law_law_639 : decode code 639 = .ok (.iconst 1, 1) := by decide +kernel
theorem d_Law_law_640 : decode code 640 = .ok (.ireturn, 1) := by decide +kernel
