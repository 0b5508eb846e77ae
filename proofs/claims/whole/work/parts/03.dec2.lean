theorem d_Ref_run_61 : decode prog_8_method_55_code 61 = .ok (.iload 4, 2) := by decide +kernel
theorem d_Ref_run_63 : decode prog_8_method_55_code 63 = .ok (.bipush 12, 2) := by decide +kernel
theorem d_Ref_run_65 : decode prog_8_method_55_code 65 = .ok (.ishr, 1) := by decide +kernel
theorem d_Ref_run_66 : decode prog_8_method_55_code 66 = .ok (.istore 5, 2) := by decide +kernel
theorem d_Ref_run_68 : decode prog_8_method_55_code 68 = .ok (.iload 5, 2) := by decide +kernel
theorem d_Ref_run_70 : decode prog_8_method_55_code 70 = .ok (.iconst 1, 1) := by decide +kernel
theorem d_Ref_run_71 : decode prog_8_method_55_code 71 = .ok (.if_icmp .lt 10, 3) := by decide +kernel
theorem d_Ref_run_74 : decode prog_8_method_55_code 74 = .ok (.iload 5, 2) := by decide +kernel
theorem d_Ref_run_76 : decode prog_8_method_55_code 76 = .ok (.bipush 6, 2) := by decide +kernel
theorem d_Ref_run_78 : decode prog_8_method_55_code 78 = .ok (.if_icmp .le 10, 3) := by decide +kernel
theorem d_Ref_run_81 : decode prog_8_method_55_code 81 = .ok (.iload 5, 2) := by decide +kernel
theorem d_Ref_run_83 : decode prog_8_method_55_code 83 = .ok (.bipush 8, 2) := by decide +kernel
theorem d_Ref_run_85 : decode prog_8_method_55_code 85 = .ok (.if_icmp .ne 18, 3) := by decide +kernel
theorem d_Ref_run_88 : decode prog_8_method_55_code 88 = .ok (.aload_n 0, 1) := by decide +kernel
theorem d_Ref_run_89 : decode prog_8_method_55_code 89 = .ok (.iload 5, 2) := by decide +kernel
theorem d_Ref_run_91 : decode prog_8_method_55_code 91 = .ok (.iload 4, 2) := by decide +kernel
theorem d_Ref_run_93 : decode prog_8_method_55_code 93 = .ok (.sipush 4095, 3) := by decide +kernel
theorem d_Ref_run_96 : decode prog_8_method_55_code 96 = .ok (.iand, 1) := by decide +kernel
theorem d_Ref_run_97 : decode prog_8_method_55_code 97 = .ok (.invokevirtual 226, 3) := by decide +kernel
theorem d_Ref_run_100 : decode prog_8_method_55_code 100 = .ok (.goto 15, 3) := by decide +kernel
theorem d_Ref_run_103 : decode prog_8_method_55_code 103 = .ok (.aload_n 0, 1) := by decide +kernel
theorem d_Ref_run_104 : decode prog_8_method_55_code 104 = .ok (.iload 5, 2) := by decide +kernel
theorem d_Ref_run_106 : decode prog_8_method_55_code 106 = .ok (.iload 4, 2) := by decide +kernel
theorem d_Ref_run_108 : decode prog_8_method_55_code 108 = .ok (.sipush 4095, 3) := by decide +kernel
theorem d_Ref_run_111 : decode prog_8_method_55_code 111 = .ok (.iand, 1) := by decide +kernel
theorem d_Ref_run_112 : decode prog_8_method_55_code 112 = .ok (.invokevirtual 228, 3) := by decide +kernel
theorem d_Ref_run_115 : decode prog_8_method_55_code 115 = .ok (.iinc 2 1, 3) := by decide +kernel
theorem d_Ref_run_118 : decode prog_8_method_55_code 118 = .ok (.goto (-96), 3) := by decide +kernel
theorem d_Ref_run_121 : decode prog_8_method_55_code 121 = .ok (.iload_n 2, 1) := by decide +kernel
theorem d_Ref_run_122 : decode prog_8_method_55_code 122 = .ok (.ireturn, 1) := by decide +kernel
theorem d_Ref_register_0 : decode prog_8_method_56_code 0 = .ok (.aload_n 0, 1) := by decide +kernel
theorem d_Ref_register_1 : decode prog_8_method_56_code 1 = .ok (.getfield 183, 3) := by decide +kernel
theorem d_Ref_register_4 : decode prog_8_method_56_code 4 = .ok (.ifCond .eq 13, 3) := by decide +kernel
theorem d_Ref_register_7 : decode prog_8_method_56_code 7 = .ok (.iload_n 1, 1) := by decide +kernel
theorem d_Ref_register_8 : decode prog_8_method_56_code 8 = .ok (.ifCond .lt 9, 3) := by decide +kernel
theorem d_Ref_register_11 : decode prog_8_method_56_code 11 = .ok (.iload_n 1, 1) := by decide +kernel
theorem d_Ref_register_12 : decode prog_8_method_56_code 12 = .ok (.bipush 8, 2) := by decide +kernel
theorem d_Ref_register_14 : decode prog_8_method_56_code 14 = .ok (.if_icmp .le 5, 3) := by decide +kernel
theorem d_Ref_register_17 : decode prog_8_method_56_code 17 = .ok (.iconst (-1), 1) := by decide +kernel
theorem d_Ref_register_18 : decode prog_8_method_56_code 18 = .ok (.ireturn, 1) := by decide +kernel
theorem d_Ref_register_19 : decode prog_8_method_56_code 19 = .ok (.iload_n 1, 1) := by decide +kernel
theorem d_Ref_register_20 : decode prog_8_method_56_code 20 = .ok (.iconst 5, 1) := by decide +kernel
theorem d_Ref_register_21 : decode prog_8_method_56_code 21 = .ok (.if_icmp .lt 26, 3) := by decide +kernel
theorem d_Ref_register_24 : decode prog_8_method_56_code 24 = .ok (.iload_n 1, 1) := by decide +kernel
theorem d_Ref_register_25 : decode prog_8_method_56_code 25 = .ok (.iconst 5, 1) := by decide +kernel
theorem d_Ref_register_26 : decode prog_8_method_56_code 26 = .ok (.isub, 1) := by decide +kernel
theorem d_Ref_register_27 : decode prog_8_method_56_code 27 = .ok (.aload_n 0, 1) := by decide +kernel
theorem d_Ref_register_28 : decode prog_8_method_56_code 28 = .ok (.getfield 207, 3) := by decide +kernel
theorem d_Ref_register_31 : decode prog_8_method_56_code 31 = .ok (.if_icmp .ge 14, 3) := by decide +kernel
theorem d_Ref_register_34 : decode prog_8_method_56_code 34 = .ok (.aload_n 0, 1) := by decide +kernel
theorem d_Ref_register_35 : decode prog_8_method_56_code 35 = .ok (.getfield 54, 3) := by decide +kernel
theorem d_Ref_register_38 : decode prog_8_method_56_code 38 = .ok (.iload_n 1, 1) := by decide +kernel
theorem d_Ref_register_39 : decode prog_8_method_56_code 39 = .ok (.iconst 5, 1) := by decide +kernel
theorem d_Ref_register_40 : decode prog_8_method_56_code 40 = .ok (.isub, 1) := by decide +kernel
theorem d_Ref_register_41 : decode prog_8_method_56_code 41 = .ok (.iaload, 1) := by decide +kernel
theorem d_Ref_register_42 : decode prog_8_method_56_code 42 = .ok (.goto 4, 3) := by decide +kernel
theorem d_Ref_register_45 : decode prog_8_method_56_code 45 = .ok (.iconst (-1), 1) := by decide +kernel
theorem d_Ref_register_46 : decode prog_8_method_56_code 46 = .ok (.ireturn, 1) := by decide +kernel
theorem d_Ref_register_47 : decode prog_8_method_56_code 47 = .ok (.iload_n 1, 1) := by decide +kernel
theorem d_Ref_register_48 : decode prog_8_method_56_code 48 = .ok (.ifCond .ne 10, 3) := by decide +kernel
theorem d_Ref_register_51 : decode prog_8_method_56_code 51 = .ok (.aload_n 0, 1) := by decide +kernel
theorem d_Ref_register_52 : decode prog_8_method_56_code 52 = .ok (.getfield 195, 3) := by decide +kernel
theorem d_Ref_register_55 : decode prog_8_method_56_code 55 = .ok (.goto 43, 3) := by decide +kernel
theorem d_Ref_register_58 : decode prog_8_method_56_code 58 = .ok (.iload_n 1, 1) := by decide +kernel
theorem d_Ref_register_59 : decode prog_8_method_56_code 59 = .ok (.iconst 1, 1) := by decide +kernel
theorem d_Ref_register_60 : decode prog_8_method_56_code 60 = .ok (.if_icmp .ne 10, 3) := by decide +kernel
theorem d_Ref_register_63 : decode prog_8_method_56_code 63 = .ok (.aload_n 0, 1) := by decide +kernel
theorem d_Ref_register_64 : decode prog_8_method_56_code 64 = .ok (.getfield 198, 3) := by decide +kernel
theorem d_Ref_register_67 : decode prog_8_method_56_code 67 = .ok (.goto 31, 3) := by decide +kernel
theorem d_Ref_register_70 : decode prog_8_method_56_code 70 = .ok (.iload_n 1, 1) := by decide +kernel
theorem d_Ref_register_71 : decode prog_8_method_56_code 71 = .ok (.iconst 2, 1) := by decide +kernel
theorem d_Ref_register_72 : decode prog_8_method_56_code 72 = .ok (.if_icmp .ne 10, 3) := by decide +kernel
theorem d_Ref_register_75 : decode prog_8_method_56_code 75 = .ok (.aload_n 0, 1) := by decide +kernel
theorem d_Ref_register_76 : decode prog_8_method_56_code 76 = .ok (.getfield 201, 3) := by decide +kernel
theorem d_Ref_register_79 : decode prog_8_method_56_code 79 = .ok (.goto 19, 3) := by decide +kernel
theorem d_Ref_register_82 : decode prog_8_method_56_code 82 = .ok (.iload_n 1, 1) := by decide +kernel
theorem d_Ref_register_83 : decode prog_8_method_56_code 83 = .ok (.iconst 3, 1) := by decide +kernel
theorem d_Ref_register_84 : decode prog_8_method_56_code 84 = .ok (.if_icmp .ne 10, 3) := by decide +kernel
theorem d_Ref_register_87 : decode prog_8_method_56_code 87 = .ok (.aload_n 0, 1) := by decide +kernel
theorem d_Ref_register_88 : decode prog_8_method_56_code 88 = .ok (.getfield 204, 3) := by decide +kernel
theorem d_Ref_register_91 : decode prog_8_method_56_code 91 = .ok (.goto 7, 3) := by decide +kernel
theorem d_Ref_register_94 : decode prog_8_method_56_code 94 = .ok (.aload_n 0, 1) := by decide +kernel
theorem d_Ref_register_95 : decode prog_8_method_56_code 95 = .ok (.getfield 207, 3) := by decide +kernel
theorem d_Ref_register_98 : decode prog_8_method_56_code 98 = .ok (.ireturn, 1) := by decide +kernel
theorem d_Ref_memory_0 : decode prog_8_method_57_code 0 = .ok (.aload_n 0, 1) := by decide +kernel
theorem d_Ref_memory_1 : decode prog_8_method_57_code 1 = .ok (.getfield 183, 3) := by decide +kernel
theorem d_Ref_memory_4 : decode prog_8_method_57_code 4 = .ok (.ifCond .eq 20, 3) := by decide +kernel
theorem d_Ref_memory_7 : decode prog_8_method_57_code 7 = .ok (.aload_n 0, 1) := by decide +kernel
theorem d_Ref_memory_8 : decode prog_8_method_57_code 8 = .ok (.iload_n 1, 1) := by decide +kernel
theorem d_Ref_memory_9 : decode prog_8_method_57_code 9 = .ok (.invokevirtual 216, 3) := by decide +kernel
theorem d_Ref_memory_12 : decode prog_8_method_57_code 12 = .ok (.ifCond .eq 12, 3) := by decide +kernel
theorem d_Ref_memory_15 : decode prog_8_method_57_code 15 = .ok (.aload_n 0, 1) := by decide +kernel
theorem d_Ref_memory_16 : decode prog_8_method_57_code 16 = .ok (.getfield 51, 3) := by decide +kernel
theorem d_Ref_memory_19 : decode prog_8_method_57_code 19 = .ok (.iload_n 1, 1) := by decide +kernel
theorem d_Ref_memory_20 : decode prog_8_method_57_code 20 = .ok (.iaload, 1) := by decide +kernel
theorem d_Ref_memory_21 : decode prog_8_method_57_code 21 = .ok (.goto 4, 3) := by decide +kernel
theorem d_Ref_memory_24 : decode prog_8_method_57_code 24 = .ok (.iconst (-1), 1) := by decide +kernel
theorem d_Ref_memory_25 : decode prog_8_method_57_code 25 = .ok (.ireturn, 1) := by decide +kernel
theorem d_Img_init_0 : decode prog_2_method_1_code 0 = .ok (.aload_n 0, 1) := by decide +kernel
theorem d_Img_init_1 : decode prog_2_method_1_code 1 = .ok (.invokespecial 3, 3) := by decide +kernel
theorem d_Img_init_4 : decode prog_2_method_1_code 4 = .ok (.aload_n 0, 1) := by decide +kernel
theorem d_Img_init_5 : decode prog_2_method_1_code 5 = .ok (.bipush 6, 2) := by decide +kernel
theorem d_Img_init_7 : decode prog_2_method_1_code 7 = .ok (.iconst 3, 1) := by decide +kernel
theorem d_Img_init_8 : decode prog_2_method_1_code 8 = .ok (.multianewarray 9 2, 4) := by decide +kernel
theorem d_Img_init_12 : decode prog_2_method_1_code 12 = .ok (.putfield 11, 3) := by decide +kernel
theorem d_Img_init_15 : decode prog_2_method_1_code 15 = .ok (.aload_n 0, 1) := by decide +kernel
theorem d_Img_init_16 : decode prog_2_method_1_code 16 = .ok (.sipush 200, 3) := by decide +kernel
theorem d_Img_init_19 : decode prog_2_method_1_code 19 = .ok (.newarray .int, 2) := by decide +kernel
theorem d_Img_init_21 : decode prog_2_method_1_code 21 = .ok (.putfield 16, 3) := by decide +kernel
theorem d_Img_init_24 : decode prog_2_method_1_code 24 = .ok (.aload_n 0, 1) := by decide +kernel
theorem d_Img_init_25 : decode prog_2_method_1_code 25 = .ok (.iconst 3, 1) := by decide +kernel
theorem d_Img_init_26 : decode prog_2_method_1_code 26 = .ok (.newarray .int, 2) := by decide +kernel
theorem d_Img_init_28 : decode prog_2_method_1_code 28 = .ok (.putfield 20, 3) := by decide +kernel
theorem d_Img_init_31 : decode prog_2_method_1_code 31 = .ok (.aload_n 0, 1) := by decide +kernel
theorem d_Img_init_32 : decode prog_2_method_1_code 32 = .ok (.bipush 16, 2) := by decide +kernel
theorem d_Img_init_34 : decode prog_2_method_1_code 34 = .ok (.newarray .int, 2) := by decide +kernel
theorem d_Img_init_36 : decode prog_2_method_1_code 36 = .ok (.putfield 23, 3) := by decide +kernel
theorem d_Img_init_39 : decode prog_2_method_1_code 39 = .ok (.aload_n 0, 1) := by decide +kernel
theorem d_Img_init_40 : decode prog_2_method_1_code 40 = .ok (.aload_n 1, 1) := by decide +kernel
theorem d_Img_init_41 : decode prog_2_method_1_code 41 = .ok (.putfield 26, 3) := by decide +kernel
theorem d_Img_init_44 : decode prog_2_method_1_code 44 = .ok (.aload_n 0, 1) := by decide +kernel
theorem d_Img_init_45 : decode prog_2_method_1_code 45 = .ok (.aload_n 2, 1) := by decide +kernel
theorem d_Img_init_46 : decode prog_2_method_1_code 46 = .ok (.putfield 30, 3) := by decide +kernel
theorem d_Img_init_49 : decode prog_2_method_1_code 49 = .ok (.return_, 1) := by decide +kernel
theorem d_Img_throwAway_0 : decode prog_2_method_2_code 0 = .ok (.aload_n 0, 1) := by decide +kernel
theorem d_Img_throwAway_1 : decode prog_2_method_2_code 1 = .ok (.iconst 0, 1) := by decide +kernel
theorem d_Img_throwAway_2 : decode prog_2_method_2_code 2 = .ok (.putfield 34, 3) := by decide +kernel
theorem d_Img_throwAway_5 : decode prog_2_method_2_code 5 = .ok (.return_, 1) := by decide +kernel
theorem d_Img_isThere_0 : decode prog_2_method_3_code 0 = .ok (.aload_n 0, 1) := by decide +kernel
theorem d_Img_isThere_1 : decode prog_2_method_3_code 1 = .ok (.getfield 34, 3) := by decide +kernel
theorem d_Img_isThere_4 : decode prog_2_method_3_code 4 = .ok (.ireturn, 1) := by decide +kernel
theorem d_Img_build_0 : decode prog_2_method_4_code 0 = .ok (.aload_n 0, 1) := by decide +kernel
theorem d_Img_build_1 : decode prog_2_method_4_code 1 = .ok (.invokevirtual 38, 3) := by decide +kernel
theorem d_Img_build_4 : decode prog_2_method_4_code 4 = .ok (.aload_n 0, 1) := by decide +kernel
theorem d_Img_build_5 : decode prog_2_method_4_code 5 = .ok (.invokevirtual 41, 3) := by decide +kernel
theorem d_Img_build_8 : decode prog_2_method_4_code 8 = .ok (.aload_n 0, 1) := by decide +kernel
theorem d_Img_build_9 : decode prog_2_method_4_code 9 = .ok (.getfield 44, 3) := by decide +kernel
theorem d_Img_build_12 : decode prog_2_method_4_code 12 = .ok (.sipush 200, 3) := by decide +kernel
theorem d_Img_build_15 : decode prog_2_method_4_code 15 = .ok (.if_icmp .le 5, 3) := by decide +kernel
theorem d_Img_build_18 : decode prog_2_method_4_code 18 = .ok (.iconst 0, 1) := by decide +kernel
theorem d_Img_build_19 : decode prog_2_method_4_code 19 = .ok (.ireturn, 1) := by decide +kernel
theorem d_Img_build_20 : decode prog_2_method_4_code 20 = .ok (.iconst 0, 1) := by decide +kernel
theorem d_Img_build_21 : decode prog_2_method_4_code 21 = .ok (.istore_n 2, 1) := by decide +kernel
theorem d_Img_build_22 : decode prog_2_method_4_code 22 = .ok (.iload_n 2, 1) := by decide +kernel
theorem d_Img_build_23 : decode prog_2_method_4_code 23 = .ok (.aload_n 0, 1) := by decide +kernel
theorem d_Img_build_24 : decode prog_2_method_4_code 24 = .ok (.getfield 30, 3) := by decide +kernel
theorem d_Img_build_27 : decode prog_2_method_4_code 27 = .ok (.invokevirtual 48, 3) := by decide +kernel
theorem d_Img_build_30 : decode prog_2_method_4_code 30 = .ok (.if_icmp .ge 21, 3) := by decide +kernel
theorem d_Img_build_33 : decode prog_2_method_4_code 33 = .ok (.aload_n 0, 1) := by decide +kernel
theorem d_Img_build_34 : decode prog_2_method_4_code 34 = .ok (.aload_n 0, 1) := by decide +kernel
theorem d_Img_build_35 : decode prog_2_method_4_code 35 = .ok (.getfield 30, 3) := by decide +kernel
theorem d_Img_build_38 : decode prog_2_method_4_code 38 = .ok (.iload_n 2, 1) := by decide +kernel
theorem d_Img_build_39 : decode prog_2_method_4_code 39 = .ok (.invokevirtual 54, 3) := by decide +kernel
theorem d_Img_build_42 : decode prog_2_method_4_code 42 = .ok (.invokevirtual 58, 3) := by decide +kernel
theorem d_Img_build_45 : decode prog_2_method_4_code 45 = .ok (.iinc 2 1, 3) := by decide +kernel
theorem d_Img_build_48 : decode prog_2_method_4_code 48 = .ok (.goto (-26), 3) := by decide +kernel
theorem d_Img_build_51 : decode prog_2_method_4_code 51 = .ok (.aload_n 0, 1) := by decide +kernel
theorem d_Img_build_52 : decode prog_2_method_4_code 52 = .ok (.invokevirtual 62, 3) := by decide +kernel
theorem d_Img_build_55 : decode prog_2_method_4_code 55 = .ok (.iconst 0, 1) := by decide +kernel
theorem d_Img_build_56 : decode prog_2_method_4_code 56 = .ok (.istore_n 2, 1) := by decide +kernel
theorem d_Img_build_57 : decode prog_2_method_4_code 57 = .ok (.iload_n 2, 1) := by decide +kernel
theorem d_Img_build_58 : decode prog_2_method_4_code 58 = .ok (.aload_n 0, 1) := by decide +kernel
theorem d_Img_build_59 : decode prog_2_method_4_code 59 = .ok (.getfield 30, 3) := by decide +kernel
theorem d_Img_build_62 : decode prog_2_method_4_code 62 = .ok (.invokevirtual 48, 3) := by decide +kernel
theorem d_Img_build_65 : decode prog_2_method_4_code 65 = .ok (.if_icmp .ge 21, 3) := by decide +kernel
theorem d_Img_build_68 : decode prog_2_method_4_code 68 = .ok (.aload_n 0, 1) := by decide +kernel
theorem d_Img_build_69 : decode prog_2_method_4_code 69 = .ok (.aload_n 0, 1) := by decide +kernel
theorem d_Img_build_70 : decode prog_2_method_4_code 70 = .ok (.getfield 30, 3) := by decide +kernel
theorem d_Img_build_73 : decode prog_2_method_4_code 73 = .ok (.iload_n 2, 1) := by decide +kernel
theorem d_Img_build_74 : decode prog_2_method_4_code 74 = .ok (.invokevirtual 54, 3) := by decide +kernel
theorem d_Img_build_77 : decode prog_2_method_4_code 77 = .ok (.invokevirtual 65, 3) := by decide +kernel
theorem d_Img_build_80 : decode prog_2_method_4_code 80 = .ok (.iinc 2 1, 3) := by decide +kernel
theorem d_Img_build_83 : decode prog_2_method_4_code 83 = .ok (.goto (-26), 3) := by decide +kernel
theorem d_Img_build_86 : decode prog_2_method_4_code 86 = .ok (.aload_n 0, 1) := by decide +kernel
theorem d_Img_build_87 : decode prog_2_method_4_code 87 = .ok (.iload_n 1, 1) := by decide +kernel
theorem d_Img_build_88 : decode prog_2_method_4_code 88 = .ok (.iconst (-1), 1) := by decide +kernel
theorem d_Img_build_89 : decode prog_2_method_4_code 89 = .ok (.if_icmp .ne 7, 3) := by decide +kernel
theorem d_Img_build_92 : decode prog_2_method_4_code 92 = .ok (.iconst 0, 1) := by decide +kernel
theorem d_Img_build_93 : decode prog_2_method_4_code 93 = .ok (.goto 9, 3) := by decide +kernel
theorem d_Img_build_96 : decode prog_2_method_4_code 96 = .ok (.aload_n 0, 1) := by decide +kernel
theorem d_Img_build_97 : decode prog_2_method_4_code 97 = .ok (.getfield 23, 3) := by decide +kernel
theorem d_Img_build_100 : decode prog_2_method_4_code 100 = .ok (.iload_n 1, 1) := by decide +kernel
theorem d_Img_build_101 : decode prog_2_method_4_code 101 = .ok (.iaload, 1) := by decide +kernel
theorem d_Img_build_102 : decode prog_2_method_4_code 102 = .ok (.putfield 68, 3) := by decide +kernel
theorem d_Img_build_105 : decode prog_2_method_4_code 105 = .ok (.aload_n 0, 1) := by decide +kernel
theorem d_Img_build_106 : decode prog_2_method_4_code 106 = .ok (.iconst 1, 1) := by decide +kernel
theorem d_Img_build_107 : decode prog_2_method_4_code 107 = .ok (.putfield 34, 3) := by decide +kernel
theorem d_Img_build_110 : decode prog_2_method_4_code 110 = .ok (.aload_n 0, 1) := by decide +kernel
theorem d_Img_build_111 : decode prog_2_method_4_code 111 = .ok (.iconst 0, 1) := by decide +kernel
theorem d_Img_build_112 : decode prog_2_method_4_code 112 = .ok (.putfield 71, 3) := by decide +kernel
theorem d_Img_build_115 : decode prog_2_method_4_code 115 = .ok (.iconst 1, 1) := by decide +kernel
theorem d_Img_build_116 : decode prog_2_method_4_code 116 = .ok (.ireturn, 1) := by decide +kernel
theorem d_Img_howMany_0 : decode prog_2_method_5_code 0 = .ok (.aload_n 0, 1) := by decide +kernel
theorem d_Img_howMany_1 : decode prog_2_method_5_code 1 = .ok (.getfield 44, 3) := by decide +kernel
theorem d_Img_howMany_4 : decode prog_2_method_5_code 4 = .ok (.ireturn, 1) := by decide +kernel
theorem d_Img_textWords_0 : decode prog_2_method_6_code 0 = .ok (.aload_n 0, 1) := by decide +kernel
theorem d_Img_textWords_1 : decode prog_2_method_6_code 1 = .ok (.getfield 20, 3) := by decide +kernel
theorem d_Img_textWords_4 : decode prog_2_method_6_code 4 = .ok (.iconst 0, 1) := by decide +kernel
theorem d_Img_textWords_5 : decode prog_2_method_6_code 5 = .ok (.iaload, 1) := by decide +kernel
theorem d_Img_textWords_6 : decode prog_2_method_6_code 6 = .ok (.ireturn, 1) := by decide +kernel
theorem d_Img_entryAddress_0 : decode prog_2_method_7_code 0 = .ok (.aload_n 0, 1) := by decide +kernel
theorem d_Img_entryAddress_1 : decode prog_2_method_7_code 1 = .ok (.getfield 68, 3) := by decide +kernel
theorem d_Img_entryAddress_4 : decode prog_2_method_7_code 4 = .ok (.ireturn, 1) := by decide +kernel
theorem d_Img_wordsIn_0 : decode prog_2_method_8_code 0 = .ok (.aload_n 0, 1) := by decide +kernel
theorem d_Img_wordsIn_1 : decode prog_2_method_8_code 1 = .ok (.getfield 34, 3) := by decide +kernel
theorem d_Img_wordsIn_4 : decode prog_2_method_8_code 4 = .ok (.ifCond .eq 19, 3) := by decide +kernel
theorem d_Img_wordsIn_7 : decode prog_2_method_8_code 7 = .ok (.iload_n 1, 1) := by decide +kernel
theorem d_Img_wordsIn_8 : decode prog_2_method_8_code 8 = .ok (.invokestatic 74, 3) := by decide +kernel
theorem d_Img_wordsIn_11 : decode prog_2_method_8_code 11 = .ok (.ifCond .eq 12, 3) := by decide +kernel
theorem d_Img_wordsIn_14 : decode prog_2_method_8_code 14 = .ok (.aload_n 0, 1) := by decide +kernel
theorem d_Img_wordsIn_15 : decode prog_2_method_8_code 15 = .ok (.getfield 20, 3) := by decide +kernel
theorem d_Img_wordsIn_18 : decode prog_2_method_8_code 18 = .ok (.iload_n 1, 1) := by decide +kernel
theorem d_Img_wordsIn_19 : decode prog_2_method_8_code 19 = .ok (.iaload, 1) := by decide +kernel
theorem d_Img_wordsIn_20 : decode prog_2_method_8_code 20 = .ok (.goto 4, 3) := by decide +kernel
theorem d_Img_wordsIn_23 : decode prog_2_method_8_code 23 = .ok (.iconst (-1), 1) := by decide +kernel
theorem d_Img_wordsIn_24 : decode prog_2_method_8_code 24 = .ok (.ireturn, 1) := by decide +kernel
theorem d_Img_wordAt_0 : decode prog_2_method_9_code 0 = .ok (.aload_n 0, 1) := by decide +kernel
theorem d_Img_wordAt_1 : decode prog_2_method_9_code 1 = .ok (.getfield 34, 3) := by decide +kernel
theorem d_Img_wordAt_4 : decode prog_2_method_9_code 4 = .ok (.ifCond .eq 26, 3) := by decide +kernel
theorem d_Img_wordAt_7 : decode prog_2_method_9_code 7 = .ok (.iload_n 1, 1) := by decide +kernel
theorem d_Img_wordAt_8 : decode prog_2_method_9_code 8 = .ok (.iconst 0, 1) := by decide +kernel
theorem d_Img_wordAt_9 : decode prog_2_method_9_code 9 = .ok (.aload_n 0, 1) := by decide +kernel
theorem d_Img_wordAt_10 : decode prog_2_method_9_code 10 = .ok (.getfield 44, 3) := by decide +kernel
theorem d_Img_wordAt_13 : decode prog_2_method_9_code 13 = .ok (.iconst 1, 1) := by decide +kernel
theorem d_Img_wordAt_14 : decode prog_2_method_9_code 14 = .ok (.isub, 1) := by decide +kernel
theorem d_Img_wordAt_15 : decode prog_2_method_9_code 15 = .ok (.invokestatic 78, 3) := by decide +kernel
theorem d_Img_wordAt_18 : decode prog_2_method_9_code 18 = .ok (.ifCond .eq 12, 3) := by decide +kernel
theorem d_Img_wordAt_21 : decode prog_2_method_9_code 21 = .ok (.aload_n 0, 1) := by decide +kernel
theorem d_Img_wordAt_22 : decode prog_2_method_9_code 22 = .ok (.getfield 16, 3) := by decide +kernel
theorem d_Img_wordAt_25 : decode prog_2_method_9_code 25 = .ok (.iload_n 1, 1) := by decide +kernel
theorem d_Img_wordAt_26 : decode prog_2_method_9_code 26 = .ok (.iaload, 1) := by decide +kernel
theorem d_Img_wordAt_27 : decode prog_2_method_9_code 27 = .ok (.goto 4, 3) := by decide +kernel
theorem d_Img_wordAt_30 : decode prog_2_method_9_code 30 = .ok (.iconst (-1), 1) := by decide +kernel
theorem d_Img_wordAt_31 : decode prog_2_method_9_code 31 = .ok (.ireturn, 1) := by decide +kernel
theorem d_Img_valueOf_0 : decode prog_2_method_10_code 0 = .ok (.aload_n 0, 1) := by decide +kernel
theorem d_Img_valueOf_1 : decode prog_2_method_10_code 1 = .ok (.getfield 34, 3) := by decide +kernel
theorem d_Img_valueOf_4 : decode prog_2_method_10_code 4 = .ok (.ifCond .eq 26, 3) := by decide +kernel
theorem d_Img_valueOf_7 : decode prog_2_method_10_code 7 = .ok (.aload_n 0, 1) := by decide +kernel
theorem d_Img_valueOf_8 : decode prog_2_method_10_code 8 = .ok (.getfield 71, 3) := by decide +kernel
theorem d_Img_valueOf_11 : decode prog_2_method_10_code 11 = .ok (.ifCond .ne 19, 3) := by decide +kernel
theorem d_Img_valueOf_14 : decode prog_2_method_10_code 14 = .ok (.iload_n 1, 1) := by decide +kernel
theorem d_Img_valueOf_15 : decode prog_2_method_10_code 15 = .ok (.invokestatic 82, 3) := by decide +kernel
theorem d_Img_valueOf_18 : decode prog_2_method_10_code 18 = .ok (.ifCond .eq 12, 3) := by decide +kernel
theorem d_Img_valueOf_21 : decode prog_2_method_10_code 21 = .ok (.aload_n 0, 1) := by decide +kernel
theorem d_Img_valueOf_22 : decode prog_2_method_10_code 22 = .ok (.getfield 23, 3) := by decide +kernel
theorem d_Img_valueOf_25 : decode prog_2_method_10_code 25 = .ok (.iload_n 1, 1) := by decide +kernel
theorem d_Img_valueOf_26 : decode prog_2_method_10_code 26 = .ok (.iaload, 1) := by decide +kernel
theorem d_Img_valueOf_27 : decode prog_2_method_10_code 27 = .ok (.goto 4, 3) := by decide +kernel
theorem d_Img_valueOf_30 : decode prog_2_method_10_code 30 = .ok (.iconst (-1), 1) := by decide +kernel
theorem d_Img_valueOf_31 : decode prog_2_method_10_code 31 = .ok (.ireturn, 1) := by decide +kernel
theorem d_Img_dropNames_0 : decode prog_2_method_11_code 0 = .ok (.aload_n 0, 1) := by decide +kernel
theorem d_Img_dropNames_1 : decode prog_2_method_11_code 1 = .ok (.getfield 34, 3) := by decide +kernel
theorem d_Img_dropNames_4 : decode prog_2_method_11_code 4 = .ok (.ifCond .eq 10, 3) := by decide +kernel
theorem d_Img_dropNames_7 : decode prog_2_method_11_code 7 = .ok (.aload_n 0, 1) := by decide +kernel
theorem d_Img_dropNames_8 : decode prog_2_method_11_code 8 = .ok (.getfield 71, 3) := by decide +kernel
theorem d_Img_dropNames_11 : decode prog_2_method_11_code 11 = .ok (.ifCond .eq 5, 3) := by decide +kernel
theorem d_Img_dropNames_14 : decode prog_2_method_11_code 14 = .ok (.iconst 0, 1) := by decide +kernel
theorem d_Img_dropNames_15 : decode prog_2_method_11_code 15 = .ok (.ireturn, 1) := by decide +kernel
theorem d_Img_dropNames_16 : decode prog_2_method_11_code 16 = .ok (.aload_n 0, 1) := by decide +kernel
theorem d_Img_dropNames_17 : decode prog_2_method_11_code 17 = .ok (.iconst 1, 1) := by decide +kernel
theorem d_Img_dropNames_18 : decode prog_2_method_11_code 18 = .ok (.putfield 71, 3) := by decide +kernel
theorem d_Img_dropNames_21 : decode prog_2_method_11_code 21 = .ok (.iconst 1, 1) := by decide +kernel
theorem d_Img_dropNames_22 : decode prog_2_method_11_code 22 = .ok (.ireturn, 1) := by decide +kernel
theorem d_Img_layOutSections_0 : decode prog_2_method_12_code 0 = .ok (.aload_n 0, 1) := by decide +kernel
theorem d_Img_layOutSections_1 : decode prog_2_method_12_code 1 = .ok (.iconst 0, 1) := by decide +kernel
theorem d_Img_layOutSections_2 : decode prog_2_method_12_code 2 = .ok (.putfield 44, 3) := by decide +kernel
theorem d_Img_layOutSections_5 : decode prog_2_method_12_code 5 = .ok (.iconst 0, 1) := by decide +kernel
theorem d_Img_layOutSections_6 : decode prog_2_method_12_code 6 = .ok (.istore_n 1, 1) := by decide +kernel
theorem d_Img_layOutSections_7 : decode prog_2_method_12_code 7 = .ok (.iload_n 1, 1) := by decide +kernel
theorem d_Img_layOutSections_8 : decode prog_2_method_12_code 8 = .ok (.iconst 3, 1) := by decide +kernel
theorem d_Img_layOutSections_9 : decode prog_2_method_12_code 9 = .ok (.if_icmp .ge 88, 3) := by decide +kernel
theorem d_Img_layOutSections_12 : decode prog_2_method_12_code 12 = .ok (.aload_n 0, 1) := by decide +kernel
theorem d_Img_layOutSections_13 : decode prog_2_method_12_code 13 = .ok (.getfield 44, 3) := by decide +kernel
theorem d_Img_layOutSections_16 : decode prog_2_method_12_code 16 = .ok (.istore_n 2, 1) := by decide +kernel
theorem d_Img_layOutSections_17 : decode prog_2_method_12_code 17 = .ok (.iconst 0, 1) := by decide +kernel
theorem d_Img_layOutSections_18 : decode prog_2_method_12_code 18 = .ok (.istore_n 3, 1) := by decide +kernel
theorem d_Img_layOutSections_19 : decode prog_2_method_12_code 19 = .ok (.iload_n 3, 1) := by decide +kernel
theorem d_Img_layOutSections_20 : decode prog_2_method_12_code 20 = .ok (.aload_n 0, 1) := by decide +kernel
theorem d_Img_layOutSections_21 : decode prog_2_method_12_code 21 = .ok (.getfield 30, 3) := by decide +kernel
theorem d_Img_layOutSections_24 : decode prog_2_method_12_code 24 = .ok (.invokevirtual 48, 3) := by decide +kernel
theorem d_Img_layOutSections_27 : decode prog_2_method_12_code 27 = .ok (.if_icmp .ge 52, 3) := by decide +kernel
theorem d_Img_layOutSections_30 : decode prog_2_method_12_code 30 = .ok (.aload_n 0, 1) := by decide +kernel
theorem d_Img_layOutSections_31 : decode prog_2_method_12_code 31 = .ok (.getfield 30, 3) := by decide +kernel
theorem d_Img_layOutSections_34 : decode prog_2_method_12_code 34 = .ok (.iload_n 3, 1) := by decide +kernel
theorem d_Img_layOutSections_35 : decode prog_2_method_12_code 35 = .ok (.invokevirtual 54, 3) := by decide +kernel
theorem d_Img_layOutSections_38 : decode prog_2_method_12_code 38 = .ok (.istore 4, 2) := by decide +kernel
theorem d_Img_layOutSections_40 : decode prog_2_method_12_code 40 = .ok (.aload_n 0, 1) := by decide +kernel
theorem d_Img_layOutSections_41 : decode prog_2_method_12_code 41 = .ok (.getfield 11, 3) := by decide +kernel
theorem d_Img_layOutSections_44 : decode prog_2_method_12_code 44 = .ok (.iload 4, 2) := by decide +kernel
theorem d_Img_layOutSections_46 : decode prog_2_method_12_code 46 = .ok (.aaload, 1) := by decide +kernel
theorem d_Img_layOutSections_47 : decode prog_2_method_12_code 47 = .ok (.iload_n 1, 1) := by decide +kernel
theorem d_Img_layOutSections_48 : decode prog_2_method_12_code 48 = .ok (.aload_n 0, 1) := by decide +kernel
theorem d_Img_layOutSections_49 : decode prog_2_method_12_code 49 = .ok (.getfield 44, 3) := by decide +kernel
theorem d_Img_layOutSections_52 : decode prog_2_method_12_code 52 = .ok (.iastore, 1) := by decide +kernel
theorem d_Img_layOutSections_53 : decode prog_2_method_12_code 53 = .ok (.aload_n 0, 1) := by decide +kernel
theorem d_Img_layOutSections_54 : decode prog_2_method_12_code 54 = .ok (.dup, 1) := by decide +kernel
theorem d_Img_layOutSections_55 : decode prog_2_method_12_code 55 = .ok (.getfield 44, 3) := by decide +kernel
theorem d_Img_layOutSections_58 : decode prog_2_method_12_code 58 = .ok (.aload_n 0, 1) := by decide +kernel
theorem d_Img_layOutSections_59 : decode prog_2_method_12_code 59 = .ok (.getfield 26, 3) := by decide +kernel
theorem d_Img_layOutSections_62 : decode prog_2_method_12_code 62 = .ok (.iload 4, 2) := by decide +kernel
theorem d_Img_layOutSections_64 : decode prog_2_method_12_code 64 = .ok (.aaload, 1) := by decide +kernel
theorem d_Img_layOutSections_65 : decode prog_2_method_12_code 65 = .ok (.iload_n 1, 1) := by decide +kernel
theorem d_Img_layOutSections_66 : decode prog_2_method_12_code 66 = .ok (.invokevirtual 85, 3) := by decide +kernel
theorem d_Img_layOutSections_69 : decode prog_2_method_12_code 69 = .ok (.iadd, 1) := by decide +kernel
theorem d_Img_layOutSections_70 : decode prog_2_method_12_code 70 = .ok (.putfield 44, 3) := by decide +kernel
theorem d_Img_layOutSections_73 : decode prog_2_method_12_code 73 = .ok (.iinc 3 1, 3) := by decide +kernel
theorem d_Img_layOutSections_76 : decode prog_2_method_12_code 76 = .ok (.goto (-57), 3) := by decide +kernel
theorem d_Img_layOutSections_79 : decode prog_2_method_12_code 79 = .ok (.aload_n 0, 1) := by decide +kernel
theorem d_Img_layOutSections_80 : decode prog_2_method_12_code 80 = .ok (.getfield 20, 3) := by decide +kernel
theorem d_Img_layOutSections_83 : decode prog_2_method_12_code 83 = .ok (.iload_n 1, 1) := by decide +kernel
theorem d_Img_layOutSections_84 : decode prog_2_method_12_code 84 = .ok (.aload_n 0, 1) := by decide +kernel
theorem d_Img_layOutSections_85 : decode prog_2_method_12_code 85 = .ok (.getfield 44, 3) := by decide +kernel
theorem d_Img_layOutSections_88 : decode prog_2_method_12_code 88 = .ok (.iload_n 2, 1) := by decide +kernel
theorem d_Img_layOutSections_89 : decode prog_2_method_12_code 89 = .ok (.isub, 1) := by decide +kernel
theorem d_Img_layOutSections_90 : decode prog_2_method_12_code 90 = .ok (.iastore, 1) := by decide +kernel
theorem d_Img_layOutSections_91 : decode prog_2_method_12_code 91 = .ok (.iinc 1 1, 3) := by decide +kernel
theorem d_Img_layOutSections_94 : decode prog_2_method_12_code 94 = .ok (.goto (-87), 3) := by decide +kernel
theorem d_Img_layOutSections_97 : decode prog_2_method_12_code 97 = .ok (.return_, 1) := by decide +kernel
theorem d_Img_layOutCommons_0 : decode prog_2_method_13_code 0 = .ok (.iconst 0, 1) := by decide +kernel
theorem d_Img_layOutCommons_1 : decode prog_2_method_13_code 1 = .ok (.istore_n 1, 1) := by decide +kernel
theorem d_Img_layOutCommons_2 : decode prog_2_method_13_code 2 = .ok (.iload_n 1, 1) := by decide +kernel
theorem d_Img_layOutCommons_3 : decode prog_2_method_13_code 3 = .ok (.bipush 16, 2) := by decide +kernel
theorem d_Img_layOutCommons_5 : decode prog_2_method_13_code 5 = .ok (.if_icmp .ge 63, 3) := by decide +kernel
theorem d_Img_layOutCommons_8 : decode prog_2_method_13_code 8 = .ok (.aload_n 0, 1) := by decide +kernel
theorem d_Img_layOutCommons_9 : decode prog_2_method_13_code 9 = .ok (.getfield 23, 3) := by decide +kernel
theorem d_Img_layOutCommons_12 : decode prog_2_method_13_code 12 = .ok (.iload_n 1, 1) := by decide +kernel
theorem d_Img_layOutCommons_13 : decode prog_2_method_13_code 13 = .ok (.iconst (-1), 1) := by decide +kernel
theorem d_Img_layOutCommons_14 : decode prog_2_method_13_code 14 = .ok (.iastore, 1) := by decide +kernel
theorem d_Img_layOutCommons_15 : decode prog_2_method_13_code 15 = .ok (.aload_n 0, 1) := by decide +kernel
theorem d_Img_layOutCommons_16 : decode prog_2_method_13_code 16 = .ok (.getfield 30, 3) := by decide +kernel
theorem d_Img_layOutCommons_19 : decode prog_2_method_13_code 19 = .ok (.iload_n 1, 1) := by decide +kernel
theorem d_Img_layOutCommons_20 : decode prog_2_method_13_code 20 = .ok (.invokevirtual 90, 3) := by decide +kernel
theorem d_Img_layOutCommons_23 : decode prog_2_method_13_code 23 = .ok (.ifCond .eq 39, 3) := by decide +kernel
theorem d_Img_layOutCommons_26 : decode prog_2_method_13_code 26 = .ok (.aload_n 0, 1) := by decide +kernel
theorem d_Img_layOutCommons_27 : decode prog_2_method_13_code 27 = .ok (.iload_n 1, 1) := by decide +kernel
theorem d_Img_layOutCommons_28 : decode prog_2_method_13_code 28 = .ok (.invokevirtual 93, 3) := by decide +kernel
theorem d_Img_layOutCommons_31 : decode prog_2_method_13_code 31 = .ok (.istore_n 2, 1) := by decide +kernel
theorem d_Img_layOutCommons_32 : decode prog_2_method_13_code 32 = .ok (.aload_n 0, 1) := by decide +kernel
theorem d_Img_layOutCommons_33 : decode prog_2_method_13_code 33 = .ok (.getfield 23, 3) := by decide +kernel
theorem d_Img_layOutCommons_36 : decode prog_2_method_13_code 36 = .ok (.iload_n 1, 1) := by decide +kernel
theorem d_Img_layOutCommons_37 : decode prog_2_method_13_code 37 = .ok (.aload_n 0, 1) := by decide +kernel
theorem d_Img_layOutCommons_38 : decode prog_2_method_13_code 38 = .ok (.getfield 44, 3) := by decide +kernel
theorem d_Img_layOutCommons_41 : decode prog_2_method_13_code 41 = .ok (.iastore, 1) := by decide +kernel
theorem d_Img_layOutCommons_42 : decode prog_2_method_13_code 42 = .ok (.aload_n 0, 1) := by decide +kernel
theorem d_Img_layOutCommons_43 : decode prog_2_method_13_code 43 = .ok (.dup, 1) := by decide +kernel
theorem d_Img_layOutCommons_44 : decode prog_2_method_13_code 44 = .ok (.getfield 44, 3) := by decide +kernel
theorem d_Img_layOutCommons_47 : decode prog_2_method_13_code 47 = .ok (.iload_n 2, 1) := by decide +kernel
theorem d_Img_layOutCommons_48 : decode prog_2_method_13_code 48 = .ok (.iadd, 1) := by decide +kernel
theorem d_Img_layOutCommons_49 : decode prog_2_method_13_code 49 = .ok (.putfield 44, 3) := by decide +kernel
theorem d_Img_layOutCommons_52 : decode prog_2_method_13_code 52 = .ok (.aload_n 0, 1) := by decide +kernel
theorem d_Img_layOutCommons_53 : decode prog_2_method_13_code 53 = .ok (.getfield 20, 3) := by decide +kernel
theorem d_Img_layOutCommons_56 : decode prog_2_method_13_code 56 = .ok (.iconst 2, 1) := by decide +kernel
theorem d_Img_layOutCommons_57 : decode prog_2_method_13_code 57 = .ok (.dup2, 1) := by decide +kernel
theorem d_Img_layOutCommons_58 : decode prog_2_method_13_code 58 = .ok (.iaload, 1) := by decide +kernel
theorem d_Img_layOutCommons_59 : decode prog_2_method_13_code 59 = .ok (.iload_n 2, 1) := by decide +kernel
theorem d_Img_layOutCommons_60 : decode prog_2_method_13_code 60 = .ok (.iadd, 1) := by decide +kernel
theorem d_Img_layOutCommons_61 : decode prog_2_method_13_code 61 = .ok (.iastore, 1) := by decide +kernel
theorem d_Img_layOutCommons_62 : decode prog_2_method_13_code 62 = .ok (.iinc 1 1, 3) := by decide +kernel
theorem d_Img_layOutCommons_65 : decode prog_2_method_13_code 65 = .ok (.goto (-63), 3) := by decide +kernel
theorem d_Img_layOutCommons_68 : decode prog_2_method_13_code 68 = .ok (.return_, 1) := by decide +kernel
theorem d_Img_largestCommon_0 : decode prog_2_method_14_code 0 = .ok (.iconst 0, 1) := by decide +kernel
theorem d_Img_largestCommon_1 : decode prog_2_method_14_code 1 = .ok (.istore_n 2, 1) := by decide +kernel
theorem d_Img_largestCommon_2 : decode prog_2_method_14_code 2 = .ok (.iconst 0, 1) := by decide +kernel
theorem d_Img_largestCommon_3 : decode prog_2_method_14_code 3 = .ok (.istore_n 3, 1) := by decide +kernel
theorem d_Img_largestCommon_4 : decode prog_2_method_14_code 4 = .ok (.iload_n 3, 1) := by decide +kernel
theorem d_Img_largestCommon_5 : decode prog_2_method_14_code 5 = .ok (.aload_n 0, 1) := by decide +kernel
theorem d_Img_largestCommon_6 : decode prog_2_method_14_code 6 = .ok (.getfield 30, 3) := by decide +kernel
theorem d_Img_largestCommon_9 : decode prog_2_method_14_code 9 = .ok (.invokevirtual 48, 3) := by decide +kernel
theorem d_Img_largestCommon_12 : decode prog_2_method_14_code 12 = .ok (.if_icmp .ge 35, 3) := by decide +kernel
theorem d_Img_largestCommon_15 : decode prog_2_method_14_code 15 = .ok (.aload_n 0, 1) := by decide +kernel
theorem d_Img_largestCommon_16 : decode prog_2_method_14_code 16 = .ok (.getfield 26, 3) := by decide +kernel
theorem d_Img_largestCommon_19 : decode prog_2_method_14_code 19 = .ok (.aload_n 0, 1) := by decide +kernel
theorem d_Img_largestCommon_20 : decode prog_2_method_14_code 20 = .ok (.getfield 30, 3) := by decide +kernel
theorem d_Img_largestCommon_23 : decode prog_2_method_14_code 23 = .ok (.iload_n 3, 1) := by decide +kernel
theorem d_Img_largestCommon_24 : decode prog_2_method_14_code 24 = .ok (.invokevirtual 54, 3) := by decide +kernel
theorem d_Img_largestCommon_27 : decode prog_2_method_14_code 27 = .ok (.aaload, 1) := by decide +kernel
theorem d_Img_largestCommon_28 : decode prog_2_method_14_code 28 = .ok (.iload_n 1, 1) := by decide +kernel
theorem d_Img_largestCommon_29 : decode prog_2_method_14_code 29 = .ok (.invokevirtual 96, 3) := by decide +kernel
theorem d_Img_largestCommon_32 : decode prog_2_method_14_code 32 = .ok (.istore 4, 2) := by decide +kernel
theorem d_Img_largestCommon_34 : decode prog_2_method_14_code 34 = .ok (.iload_n 2, 1) := by decide +kernel
theorem d_Img_largestCommon_35 : decode prog_2_method_14_code 35 = .ok (.iload 4, 2) := by decide +kernel
theorem d_Img_largestCommon_37 : decode prog_2_method_14_code 37 = .ok (.invokestatic 99, 3) := by decide +kernel
theorem d_Img_largestCommon_40 : decode prog_2_method_14_code 40 = .ok (.istore_n 2, 1) := by decide +kernel
theorem d_Img_largestCommon_41 : decode prog_2_method_14_code 41 = .ok (.iinc 3 1, 3) := by decide +kernel
theorem d_Img_largestCommon_44 : decode prog_2_method_14_code 44 = .ok (.goto (-40), 3) := by decide +kernel
theorem d_Img_largestCommon_47 : decode prog_2_method_14_code 47 = .ok (.iload_n 2, 1) := by decide +kernel
theorem d_Img_largestCommon_48 : decode prog_2_method_14_code 48 = .ok (.ireturn, 1) := by decide +kernel
theorem d_Img_noteExports_0 : decode prog_2_method_15_code 0 = .ok (.aload_n 0, 1) := by decide +kernel
theorem d_Img_noteExports_1 : decode prog_2_method_15_code 1 = .ok (.getfield 26, 3) := by decide +kernel
theorem d_Img_noteExports_4 : decode prog_2_method_15_code 4 = .ok (.iload_n 1, 1) := by decide +kernel
theorem d_Img_noteExports_5 : decode prog_2_method_15_code 5 = .ok (.aaload, 1) := by decide +kernel
theorem d_Img_noteExports_6 : decode prog_2_method_15_code 6 = .ok (.invokevirtual 105, 3) := by decide +kernel
theorem d_Img_noteExports_9 : decode prog_2_method_15_code 9 = .ok (.istore_n 2, 1) := by decide +kernel
theorem d_Img_noteExports_10 : decode prog_2_method_15_code 10 = .ok (.iconst 0, 1) := by decide +kernel
theorem d_Img_noteExports_11 : decode prog_2_method_15_code 11 = .ok (.istore_n 3, 1) := by decide +kernel
theorem d_Img_noteExports_12 : decode prog_2_method_15_code 12 = .ok (.iload_n 3, 1) := by decide +kernel
theorem d_Img_noteExports_13 : decode prog_2_method_15_code 13 = .ok (.bipush 16, 2) := by decide +kernel
theorem d_Img_noteExports_15 : decode prog_2_method_15_code 15 = .ok (.if_icmp .ge 29, 3) := by decide +kernel
theorem d_Img_noteExports_18 : decode prog_2_method_15_code 18 = .ok (.iload_n 2, 1) := by decide +kernel
theorem d_Img_noteExports_19 : decode prog_2_method_15_code 19 = .ok (.iload_n 3, 1) := by decide +kernel
theorem d_Img_noteExports_20 : decode prog_2_method_15_code 20 = .ok (.invokestatic 108, 3) := by decide +kernel
theorem d_Img_noteExports_23 : decode prog_2_method_15_code 23 = .ok (.ifCond .eq 15, 3) := by decide +kernel
theorem d_Img_noteExports_26 : decode prog_2_method_15_code 26 = .ok (.aload_n 0, 1) := by decide +kernel
theorem d_Img_noteExports_27 : decode prog_2_method_15_code 27 = .ok (.getfield 23, 3) := by decide +kernel
theorem d_Img_noteExports_30 : decode prog_2_method_15_code 30 = .ok (.iload_n 3, 1) := by decide +kernel
theorem d_Img_noteExports_31 : decode prog_2_method_15_code 31 = .ok (.aload_n 0, 1) := by decide +kernel
theorem d_Img_noteExports_32 : decode prog_2_method_15_code 32 = .ok (.iload_n 1, 1) := by decide +kernel
theorem d_Img_noteExports_33 : decode prog_2_method_15_code 33 = .ok (.iload_n 3, 1) := by decide +kernel
theorem d_Img_noteExports_34 : decode prog_2_method_15_code 34 = .ok (.invokevirtual 112, 3) := by decide +kernel
theorem d_Img_noteExports_37 : decode prog_2_method_15_code 37 = .ok (.iastore, 1) := by decide +kernel
theorem d_Img_noteExports_38 : decode prog_2_method_15_code 38 = .ok (.iinc 3 1, 3) := by decide +kernel
theorem d_Img_noteExports_41 : decode prog_2_method_15_code 41 = .ok (.goto (-29), 3) := by decide +kernel
theorem d_Img_noteExports_44 : decode prog_2_method_15_code 44 = .ok (.return_, 1) := by decide +kernel
theorem d_Img_standsFor_0 : decode prog_2_method_16_code 0 = .ok (.aload_n 0, 1) := by decide +kernel
theorem d_Img_standsFor_1 : decode prog_2_method_16_code 1 = .ok (.getfield 26, 3) := by decide +kernel
theorem d_Img_standsFor_4 : decode prog_2_method_16_code 4 = .ok (.iload_n 1, 1) := by decide +kernel
theorem d_Img_standsFor_5 : decode prog_2_method_16_code 5 = .ok (.aaload, 1) := by decide +kernel
theorem d_Img_standsFor_6 : decode prog_2_method_16_code 6 = .ok (.astore_n 3, 1) := by decide +kernel
theorem d_Img_standsFor_7 : decode prog_2_method_16_code 7 = .ok (.aload_n 3, 1) := by decide +kernel
theorem d_Img_standsFor_8 : decode prog_2_method_16_code 8 = .ok (.iload_n 2, 1) := by decide +kernel
theorem d_Img_standsFor_9 : decode prog_2_method_16_code 9 = .ok (.invokevirtual 115, 3) := by decide +kernel
theorem d_Img_standsFor_12 : decode prog_2_method_16_code 12 = .ok (.ifCond .ne 10, 3) := by decide +kernel
theorem d_Img_standsFor_15 : decode prog_2_method_16_code 15 = .ok (.aload_n 0, 1) := by decide +kernel
theorem d_Img_standsFor_16 : decode prog_2_method_16_code 16 = .ok (.getfield 23, 3) := by decide +kernel
theorem d_Img_standsFor_19 : decode prog_2_method_16_code 19 = .ok (.iload_n 2, 1) := by decide +kernel
theorem d_Img_standsFor_20 : decode prog_2_method_16_code 20 = .ok (.iaload, 1) := by decide +kernel
theorem d_Img_standsFor_21 : decode prog_2_method_16_code 21 = .ok (.ireturn, 1) := by decide +kernel
theorem d_Img_standsFor_22 : decode prog_2_method_16_code 22 = .ok (.aload_n 3, 1) := by decide +kernel
theorem d_Img_standsFor_23 : decode prog_2_method_16_code 23 = .ok (.iload_n 2, 1) := by decide +kernel
theorem d_Img_standsFor_24 : decode prog_2_method_16_code 24 = .ok (.invokevirtual 118, 3) := by decide +kernel
theorem d_Img_standsFor_27 : decode prog_2_method_16_code 27 = .ok (.istore 4, 2) := by decide +kernel
theorem d_Img_standsFor_29 : decode prog_2_method_16_code 29 = .ok (.aload_n 3, 1) := by decide +kernel
theorem d_Img_standsFor_30 : decode prog_2_method_16_code 30 = .ok (.iload 4, 2) := by decide +kernel
theorem d_Img_standsFor_32 : decode prog_2_method_16_code 32 = .ok (.invokevirtual 121, 3) := by decide +kernel
theorem d_Img_standsFor_35 : decode prog_2_method_16_code 35 = .ok (.bipush 8, 2) := by decide +kernel
theorem d_Img_standsFor_37 : decode prog_2_method_16_code 37 = .ok (.if_icmp .ne 10, 3) := by decide +kernel
theorem d_Img_standsFor_40 : decode prog_2_method_16_code 40 = .ok (.aload_n 3, 1) := by decide +kernel
theorem d_Img_standsFor_41 : decode prog_2_method_16_code 41 = .ok (.iload 4, 2) := by decide +kernel
theorem d_Img_standsFor_43 : decode prog_2_method_16_code 43 = .ok (.invokevirtual 124, 3) := by decide +kernel
theorem d_Img_standsFor_46 : decode prog_2_method_16_code 46 = .ok (.ireturn, 1) := by decide +kernel
theorem d_Img_standsFor_47 : decode prog_2_method_16_code 47 = .ok (.aload_n 0, 1) := by decide +kernel
theorem d_Img_standsFor_48 : decode prog_2_method_16_code 48 = .ok (.iload_n 1, 1) := by decide +kernel
theorem d_Img_standsFor_49 : decode prog_2_method_16_code 49 = .ok (.iload 4, 2) := by decide +kernel
theorem d_Img_standsFor_51 : decode prog_2_method_16_code 51 = .ok (.invokevirtual 127, 3) := by decide +kernel
theorem d_Img_standsFor_54 : decode prog_2_method_16_code 54 = .ok (.ireturn, 1) := by decide +kernel
theorem d_Img_addressOf_0 : decode prog_2_method_17_code 0 = .ok (.aload_n 0, 1) := by decide +kernel
theorem d_Img_addressOf_1 : decode prog_2_method_17_code 1 = .ok (.getfield 26, 3) := by decide +kernel
theorem d_Img_addressOf_4 : decode prog_2_method_17_code 4 = .ok (.iload_n 1, 1) := by decide +kernel
theorem d_Img_addressOf_5 : decode prog_2_method_17_code 5 = .ok (.aaload, 1) := by decide +kernel
theorem d_Img_addressOf_6 : decode prog_2_method_17_code 6 = .ok (.astore_n 3, 1) := by decide +kernel
theorem d_Img_addressOf_7 : decode prog_2_method_17_code 7 = .ok (.aload_n 0, 1) := by decide +kernel
theorem d_Img_addressOf_8 : decode prog_2_method_17_code 8 = .ok (.getfield 11, 3) := by decide +kernel
theorem d_Img_addressOf_11 : decode prog_2_method_17_code 11 = .ok (.iload_n 1, 1) := by decide +kernel
theorem d_Img_addressOf_12 : decode prog_2_method_17_code 12 = .ok (.aaload, 1) := by decide +kernel
theorem d_Img_addressOf_13 : decode prog_2_method_17_code 13 = .ok (.aload_n 3, 1) := by decide +kernel
theorem d_Img_addressOf_14 : decode prog_2_method_17_code 14 = .ok (.iload_n 2, 1) := by decide +kernel
theorem d_Img_addressOf_15 : decode prog_2_method_17_code 15 = .ok (.invokevirtual 130, 3) := by decide +kernel
theorem d_Img_addressOf_18 : decode prog_2_method_17_code 18 = .ok (.iaload, 1) := by decide +kernel
theorem d_Img_addressOf_19 : decode prog_2_method_17_code 19 = .ok (.aload_n 3, 1) := by decide +kernel
theorem d_Img_addressOf_20 : decode prog_2_method_17_code 20 = .ok (.iload_n 2, 1) := by decide +kernel
theorem d_Img_addressOf_21 : decode prog_2_method_17_code 21 = .ok (.invokevirtual 133, 3) := by decide +kernel
theorem d_Img_addressOf_24 : decode prog_2_method_17_code 24 = .ok (.iadd, 1) := by decide +kernel
theorem d_Img_addressOf_25 : decode prog_2_method_17_code 25 = .ok (.ireturn, 1) := by decide +kernel
theorem d_Img_makeWordsZero_0 : decode prog_2_method_18_code 0 = .ok (.iconst 0, 1) := by decide +kernel
theorem d_Img_makeWordsZero_1 : decode prog_2_method_18_code 1 = .ok (.istore_n 1, 1) := by decide +kernel
theorem d_Img_makeWordsZero_2 : decode prog_2_method_18_code 2 = .ok (.iload_n 1, 1) := by decide +kernel
theorem d_Img_makeWordsZero_3 : decode prog_2_method_18_code 3 = .ok (.sipush 200, 3) := by decide +kernel
theorem d_Img_makeWordsZero_6 : decode prog_2_method_18_code 6 = .ok (.if_icmp .ge 16, 3) := by decide +kernel
theorem d_Img_makeWordsZero_9 : decode prog_2_method_18_code 9 = .ok (.aload_n 0, 1) := by decide +kernel
theorem d_Img_makeWordsZero_10 : decode prog_2_method_18_code 10 = .ok (.getfield 16, 3) := by decide +kernel
theorem d_Img_makeWordsZero_13 : decode prog_2_method_18_code 13 = .ok (.iload_n 1, 1) := by decide +kernel
theorem d_Img_makeWordsZero_14 : decode prog_2_method_18_code 14 = .ok (.iconst 0, 1) := by decide +kernel
theorem d_Img_makeWordsZero_15 : decode prog_2_method_18_code 15 = .ok (.iastore, 1) := by decide +kernel
theorem d_Img_makeWordsZero_16 : decode prog_2_method_18_code 16 = .ok (.iinc 1 1, 3) := by decide +kernel
theorem d_Img_makeWordsZero_19 : decode prog_2_method_18_code 19 = .ok (.goto (-17), 3) := by decide +kernel
theorem d_Img_makeWordsZero_22 : decode prog_2_method_18_code 22 = .ok (.return_, 1) := by decide +kernel
theorem d_Img_writeModule_0 : decode prog_2_method_19_code 0 = .ok (.aload_n 0, 1) := by decide +kernel
theorem d_Img_writeModule_1 : decode prog_2_method_19_code 1 = .ok (.getfield 26, 3) := by decide +kernel
theorem d_Img_writeModule_4 : decode prog_2_method_19_code 4 = .ok (.iload_n 1, 1) := by decide +kernel
theorem d_Img_writeModule_5 : decode prog_2_method_19_code 5 = .ok (.aaload, 1) := by decide +kernel
theorem d_Img_writeModule_6 : decode prog_2_method_19_code 6 = .ok (.astore_n 2, 1) := by decide +kernel
theorem d_Img_writeModule_7 : decode prog_2_method_19_code 7 = .ok (.iconst 0, 1) := by decide +kernel
theorem d_Img_writeModule_8 : decode prog_2_method_19_code 8 = .ok (.istore_n 3, 1) := by decide +kernel
theorem d_Img_writeModule_9 : decode prog_2_method_19_code 9 = .ok (.iload_n 3, 1) := by decide +kernel
theorem d_Img_writeModule_10 : decode prog_2_method_19_code 10 = .ok (.aload_n 2, 1) := by decide +kernel
theorem d_Img_writeModule_11 : decode prog_2_method_19_code 11 = .ok (.invokevirtual 136, 3) := by decide +kernel
theorem d_Img_writeModule_14 : decode prog_2_method_19_code 14 = .ok (.if_icmp .ge 99, 3) := by decide +kernel
theorem d_Img_writeModule_17 : decode prog_2_method_19_code 17 = .ok (.aload_n 0, 1) := by decide +kernel
theorem d_Img_writeModule_18 : decode prog_2_method_19_code 18 = .ok (.iload_n 1, 1) := by decide +kernel
theorem d_Img_writeModule_19 : decode prog_2_method_19_code 19 = .ok (.iload_n 3, 1) := by decide +kernel
theorem d_Img_writeModule_20 : decode prog_2_method_19_code 20 = .ok (.invokevirtual 127, 3) := by decide +kernel
theorem d_Img_writeModule_23 : decode prog_2_method_19_code 23 = .ok (.istore 4, 2) := by decide +kernel
theorem d_Img_writeModule_25 : decode prog_2_method_19_code 25 = .ok (.aload_n 2, 1) := by decide +kernel
theorem d_Img_writeModule_26 : decode prog_2_method_19_code 26 = .ok (.iload_n 3, 1) := by decide +kernel
theorem d_Img_writeModule_27 : decode prog_2_method_19_code 27 = .ok (.invokevirtual 121, 3) := by decide +kernel
theorem d_Img_writeModule_30 : decode prog_2_method_19_code 30 = .ok (.istore 5, 2) := by decide +kernel
theorem d_Img_writeModule_32 : decode prog_2_method_19_code 32 = .ok (.iload 5, 2) := by decide +kernel
theorem d_Img_writeModule_34 : decode prog_2_method_19_code 34 = .ok (.iconst 3, 1) := by decide +kernel
theorem d_Img_writeModule_35 : decode prog_2_method_19_code 35 = .ok (.if_icmp .ne 18, 3) := by decide +kernel
theorem d_Img_writeModule_38 : decode prog_2_method_19_code 38 = .ok (.aload_n 0, 1) := by decide +kernel
theorem d_Img_writeModule_39 : decode prog_2_method_19_code 39 = .ok (.getfield 16, 3) := by decide +kernel
theorem d_Img_writeModule_42 : decode prog_2_method_19_code 42 = .ok (.iload 4, 2) := by decide +kernel
theorem d_Img_writeModule_44 : decode prog_2_method_19_code 44 = .ok (.aload_n 2, 1) := by decide +kernel
theorem d_Img_writeModule_45 : decode prog_2_method_19_code 45 = .ok (.iload_n 3, 1) := by decide +kernel
theorem d_Img_writeModule_46 : decode prog_2_method_19_code 46 = .ok (.invokevirtual 137, 3) := by decide +kernel
theorem d_Img_writeModule_49 : decode prog_2_method_19_code 49 = .ok (.iastore, 1) := by decide +kernel
theorem d_Img_writeModule_50 : decode prog_2_method_19_code 50 = .ok (.goto 57, 3) := by decide +kernel
theorem d_Img_writeModule_53 : decode prog_2_method_19_code 53 = .ok (.iload 5, 2) := by decide +kernel
theorem d_Img_writeModule_55 : decode prog_2_method_19_code 55 = .ok (.iconst 4, 1) := by decide +kernel
theorem d_Img_writeModule_56 : decode prog_2_method_19_code 56 = .ok (.if_icmp .ne 36, 3) := by decide +kernel
theorem d_Img_writeModule_59 : decode prog_2_method_19_code 59 = .ok (.aload_n 0, 1) := by decide +kernel
theorem d_Img_writeModule_60 : decode prog_2_method_19_code 60 = .ok (.iload_n 1, 1) := by decide +kernel
theorem d_Img_writeModule_61 : decode prog_2_method_19_code 61 = .ok (.aload_n 2, 1) := by decide +kernel
theorem d_Img_writeModule_62 : decode prog_2_method_19_code 62 = .ok (.iload_n 3, 1) := by decide +kernel
theorem d_Img_writeModule_63 : decode prog_2_method_19_code 63 = .ok (.invokevirtual 137, 3) := by decide +kernel
theorem d_Img_writeModule_66 : decode prog_2_method_19_code 66 = .ok (.invokevirtual 112, 3) := by decide +kernel
theorem d_Img_writeModule_69 : decode prog_2_method_19_code 69 = .ok (.istore 6, 2) := by decide +kernel
theorem d_Img_writeModule_71 : decode prog_2_method_19_code 71 = .ok (.aload_n 0, 1) := by decide +kernel
theorem d_Img_writeModule_72 : decode prog_2_method_19_code 72 = .ok (.getfield 16, 3) := by decide +kernel
theorem d_Img_writeModule_75 : decode prog_2_method_19_code 75 = .ok (.iload 4, 2) := by decide +kernel
theorem d_Img_writeModule_77 : decode prog_2_method_19_code 77 = .ok (.iload 6, 2) := by decide +kernel
theorem d_Img_writeModule_79 : decode prog_2_method_19_code 79 = .ok (.aload_n 2, 1) := by decide +kernel
theorem d_Img_writeModule_80 : decode prog_2_method_19_code 80 = .ok (.iload_n 3, 1) := by decide +kernel
theorem d_Img_writeModule_81 : decode prog_2_method_19_code 81 = .ok (.invokevirtual 124, 3) := by decide +kernel
theorem d_Img_writeModule_84 : decode prog_2_method_19_code 84 = .ok (.iadd, 1) := by decide +kernel
theorem d_Img_writeModule_85 : decode prog_2_method_19_code 85 = .ok (.invokestatic 140, 3) := by decide +kernel
theorem d_Img_writeModule_88 : decode prog_2_method_19_code 88 = .ok (.iastore, 1) := by decide +kernel
theorem d_Img_writeModule_89 : decode prog_2_method_19_code 89 = .ok (.goto 18, 3) := by decide +kernel
theorem d_Img_writeModule_92 : decode prog_2_method_19_code 92 = .ok (.iload 5, 2) := by decide +kernel
theorem d_Img_writeModule_94 : decode prog_2_method_19_code 94 = .ok (.bipush 6, 2) := by decide +kernel
theorem d_Img_writeModule_96 : decode prog_2_method_19_code 96 = .ok (.if_icmp .ne 11, 3) := by decide +kernel
theorem d_Img_writeModule_99 : decode prog_2_method_19_code 99 = .ok (.aload_n 0, 1) := by decide +kernel
theorem d_Img_writeModule_100 : decode prog_2_method_19_code 100 = .ok (.iload_n 1, 1) := by decide +kernel
theorem d_Img_writeModule_101 : decode prog_2_method_19_code 101 = .ok (.iload_n 3, 1) := by decide +kernel
theorem d_Img_writeModule_102 : decode prog_2_method_19_code 102 = .ok (.iload 4, 2) := by decide +kernel
theorem d_Img_writeModule_104 : decode prog_2_method_19_code 104 = .ok (.invokevirtual 143, 3) := by decide +kernel
theorem d_Img_writeModule_107 : decode prog_2_method_19_code 107 = .ok (.iinc 3 1, 3) := by decide +kernel
theorem d_Img_writeModule_110 : decode prog_2_method_19_code 110 = .ok (.goto (-101), 3) := by decide +kernel
theorem d_Img_writeModule_113 : decode prog_2_method_19_code 113 = .ok (.return_, 1) := by decide +kernel
theorem d_Img_writeJump_0 : decode prog_2_method_20_code 0 = .ok (.aload_n 0, 1) := by decide +kernel
theorem d_Img_writeJump_1 : decode prog_2_method_20_code 1 = .ok (.getfield 26, 3) := by decide +kernel
theorem d_Img_writeJump_4 : decode prog_2_method_20_code 4 = .ok (.iload_n 1, 1) := by decide +kernel
theorem d_Img_writeJump_5 : decode prog_2_method_20_code 5 = .ok (.aaload, 1) := by decide +kernel
theorem d_Img_writeJump_6 : decode prog_2_method_20_code 6 = .ok (.astore 4, 2) := by decide +kernel
theorem d_Img_writeJump_8 : decode prog_2_method_20_code 8 = .ok (.sipush 256, 3) := by decide +kernel
theorem d_Img_writeJump_11 : decode prog_2_method_20_code 11 = .ok (.aload 4, 2) := by decide +kernel
theorem d_Img_writeJump_13 : decode prog_2_method_20_code 13 = .ok (.iload_n 2, 1) := by decide +kernel
theorem d_Img_writeJump_14 : decode prog_2_method_20_code 14 = .ok (.invokevirtual 124, 3) := by decide +kernel
theorem d_Img_writeJump_17 : decode prog_2_method_20_code 17 = .ok (.imul, 1) := by decide +kernel
theorem d_Img_writeJump_18 : decode prog_2_method_20_code 18 = .ok (.istore 5, 2) := by decide +kernel
theorem d_Img_writeJump_20 : decode prog_2_method_20_code 20 = .ok (.aload 4, 2) := by decide +kernel
theorem d_Img_writeJump_22 : decode prog_2_method_20_code 22 = .ok (.iload_n 2, 1) := by decide +kernel
theorem d_Img_writeJump_23 : decode prog_2_method_20_code 23 = .ok (.invokevirtual 147, 3) := by decide +kernel
theorem d_Img_writeJump_26 : decode prog_2_method_20_code 26 = .ok (.ifCond .eq 36, 3) := by decide +kernel
theorem d_Img_writeJump_29 : decode prog_2_method_20_code 29 = .ok (.aload_n 0, 1) := by decide +kernel
theorem d_Img_writeJump_30 : decode prog_2_method_20_code 30 = .ok (.getfield 16, 3) := by decide +kernel
theorem d_Img_writeJump_33 : decode prog_2_method_20_code 33 = .ok (.iload_n 3, 1) := by decide +kernel
theorem d_Img_writeJump_34 : decode prog_2_method_20_code 34 = .ok (.ldc 150, 2) := by decide +kernel
theorem d_Img_writeJump_36 : decode prog_2_method_20_code 36 = .ok (.iload 5, 2) := by decide +kernel
theorem d_Img_writeJump_38 : decode prog_2_method_20_code 38 = .ok (.iadd, 1) := by decide +kernel
theorem d_Img_writeJump_39 : decode prog_2_method_20_code 39 = .ok (.iastore, 1) := by decide +kernel
theorem d_Img_writeJump_40 : decode prog_2_method_20_code 40 = .ok (.aload_n 0, 1) := by decide +kernel
theorem d_Img_writeJump_41 : decode prog_2_method_20_code 41 = .ok (.getfield 16, 3) := by decide +kernel
theorem d_Img_writeJump_44 : decode prog_2_method_20_code 44 = .ok (.iload_n 3, 1) := by decide +kernel
theorem d_Img_writeJump_45 : decode prog_2_method_20_code 45 = .ok (.iconst 1, 1) := by decide +kernel
theorem d_Img_writeJump_46 : decode prog_2_method_20_code 46 = .ok (.iadd, 1) := by decide +kernel
theorem d_Img_writeJump_47 : decode prog_2_method_20_code 47 = .ok (.aload_n 0, 1) := by decide +kernel
theorem d_Img_writeJump_48 : decode prog_2_method_20_code 48 = .ok (.iload_n 1, 1) := by decide +kernel
theorem d_Img_writeJump_49 : decode prog_2_method_20_code 49 = .ok (.aload 4, 2) := by decide +kernel
theorem d_Img_writeJump_51 : decode prog_2_method_20_code 51 = .ok (.iload_n 2, 1) := by decide +kernel
theorem d_Img_writeJump_52 : decode prog_2_method_20_code 52 = .ok (.invokevirtual 137, 3) := by decide +kernel
theorem d_Img_writeJump_55 : decode prog_2_method_20_code 55 = .ok (.invokevirtual 112, 3) := by decide +kernel
theorem d_Img_writeJump_58 : decode prog_2_method_20_code 58 = .ok (.iastore, 1) := by decide +kernel
theorem d_Img_writeJump_59 : decode prog_2_method_20_code 59 = .ok (.goto 25, 3) := by decide +kernel
theorem d_Img_writeJump_62 : decode prog_2_method_20_code 62 = .ok (.aload_n 0, 1) := by decide +kernel
theorem d_Img_writeJump_63 : decode prog_2_method_20_code 63 = .ok (.getfield 16, 3) := by decide +kernel
theorem d_Img_writeJump_66 : decode prog_2_method_20_code 66 = .ok (.iload_n 3, 1) := by decide +kernel
theorem d_Img_writeJump_67 : decode prog_2_method_20_code 67 = .ok (.ldc 151, 2) := by decide +kernel
theorem d_Img_writeJump_69 : decode prog_2_method_20_code 69 = .ok (.iload 5, 2) := by decide +kernel
theorem d_Img_writeJump_71 : decode prog_2_method_20_code 71 = .ok (.iadd, 1) := by decide +kernel
theorem d_Img_writeJump_72 : decode prog_2_method_20_code 72 = .ok (.aload 4, 2) := by decide +kernel
theorem d_Img_writeJump_74 : decode prog_2_method_20_code 74 = .ok (.iload_n 2, 1) := by decide +kernel
theorem d_Img_writeJump_75 : decode prog_2_method_20_code 75 = .ok (.invokevirtual 152, 3) := by decide +kernel
theorem d_Img_writeJump_78 : decode prog_2_method_20_code 78 = .ok (.sipush 255, 3) := by decide +kernel
theorem d_Img_writeJump_81 : decode prog_2_method_20_code 81 = .ok (.iand, 1) := by decide +kernel
theorem d_Img_writeJump_82 : decode prog_2_method_20_code 82 = .ok (.iadd, 1) := by decide +kernel
theorem d_Img_writeJump_83 : decode prog_2_method_20_code 83 = .ok (.iastore, 1) := by decide +kernel
theorem d_Img_writeJump_84 : decode prog_2_method_20_code 84 = .ok (.return_, 1) := by decide +kernel
theorem d_Inc_init_0 : decode prog_3_method_1_code 0 = .ok (.aload_n 0, 1) := by decide +kernel
theorem d_Inc_init_1 : decode prog_3_method_1_code 1 = .ok (.invokespecial 3, 3) := by decide +kernel
theorem d_Inc_init_4 : decode prog_3_method_1_code 4 = .ok (.aload_n 0, 1) := by decide +kernel
theorem d_Inc_init_5 : decode prog_3_method_1_code 5 = .ok (.new 9, 3) := by decide +kernel
theorem d_Inc_init_8 : decode prog_3_method_1_code 8 = .ok (.dup, 1) := by decide +kernel
theorem d_Inc_init_9 : decode prog_3_method_1_code 9 = .ok (.bipush 6, 2) := by decide +kernel
theorem d_Inc_init_11 : decode prog_3_method_1_code 11 = .ok (.invokespecial 11, 3) := by decide +kernel
theorem d_Inc_init_14 : decode prog_3_method_1_code 14 = .ok (.putfield 14, 3) := by decide +kernel
theorem d_Inc_init_17 : decode prog_3_method_1_code 17 = .ok (.aload_n 0, 1) := by decide +kernel
theorem d_Inc_init_18 : decode prog_3_method_1_code 18 = .ok (.aload_n 1, 1) := by decide +kernel
theorem d_Inc_init_19 : decode prog_3_method_1_code 19 = .ok (.putfield 20, 3) := by decide +kernel
theorem d_Inc_init_22 : decode prog_3_method_1_code 22 = .ok (.return_, 1) := by decide +kernel
theorem d_Inc_goOver_0 : decode prog_3_method_2_code 0 = .ok (.aload_n 0, 1) := by decide +kernel
theorem d_Inc_goOver_1 : decode prog_3_method_2_code 1 = .ok (.getfield 14, 3) := by decide +kernel
theorem d_Inc_goOver_4 : decode prog_3_method_2_code 4 = .ok (.invokevirtual 24, 3) := by decide +kernel
theorem d_Inc_goOver_7 : decode prog_3_method_2_code 7 = .ok (.aload_n 0, 1) := by decide +kernel
theorem d_Inc_goOver_8 : decode prog_3_method_2_code 8 = .ok (.iload_n 3, 1) := by decide +kernel
theorem d_Inc_goOver_9 : decode prog_3_method_2_code 9 = .ok (.iconst (-1), 1) := by decide +kernel
theorem d_Inc_goOver_10 : decode prog_3_method_2_code 10 = .ok (.if_icmp .ne 7, 3) := by decide +kernel
theorem d_Inc_goOver_13 : decode prog_3_method_2_code 13 = .ok (.iconst 0, 1) := by decide +kernel
theorem d_Inc_goOver_14 : decode prog_3_method_2_code 14 = .ok (.goto 7, 3) := by decide +kernel
theorem d_Inc_goOver_17 : decode prog_3_method_2_code 17 = .ok (.iload_n 3, 1) := by decide +kernel
theorem d_Inc_goOver_18 : decode prog_3_method_2_code 18 = .ok (.invokestatic 27, 3) := by decide +kernel
theorem d_Inc_goOver_21 : decode prog_3_method_2_code 21 = .ok (.putfield 31, 3) := by decide +kernel
theorem d_Inc_goOver_24 : decode prog_3_method_2_code 24 = .ok (.aload_n 0, 1) := by decide +kernel
theorem d_Inc_goOver_25 : decode prog_3_method_2_code 25 = .ok (.iconst 0, 1) := by decide +kernel
theorem d_Inc_goOver_26 : decode prog_3_method_2_code 26 = .ok (.putfield 35, 3) := by decide +kernel
theorem d_Inc_goOver_29 : decode prog_3_method_2_code 29 = .ok (.aload_n 0, 1) := by decide +kernel
theorem d_Inc_goOver_30 : decode prog_3_method_2_code 30 = .ok (.iconst 0, 1) := by decide +kernel
theorem d_Inc_goOver_31 : decode prog_3_method_2_code 31 = .ok (.putfield 38, 3) := by decide +kernel
theorem d_Inc_goOver_34 : decode prog_3_method_2_code 34 = .ok (.aload_n 0, 1) := by decide +kernel
theorem d_Inc_goOver_35 : decode prog_3_method_2_code 35 = .ok (.iconst 0, 1) := by decide +kernel
theorem d_Inc_goOver_36 : decode prog_3_method_2_code 36 = .ok (.putfield 41, 3) := by decide +kernel
theorem d_Inc_goOver_39 : decode prog_3_method_2_code 39 = .ok (.iconst 0, 1) := by decide +kernel
theorem d_Inc_goOver_40 : decode prog_3_method_2_code 40 = .ok (.istore 4, 2) := by decide +kernel
theorem d_Inc_goOver_42 : decode prog_3_method_2_code 42 = .ok (.iload 4, 2) := by decide +kernel
theorem d_Inc_goOver_44 : decode prog_3_method_2_code 44 = .ok (.aload_n 1, 1) := by decide +kernel
theorem d_Inc_goOver_45 : decode prog_3_method_2_code 45 = .ok (.invokevirtual 44, 3) := by decide +kernel
theorem d_Inc_goOver_48 : decode prog_3_method_2_code 48 = .ok (.if_icmp .ge 38, 3) := by decide +kernel
theorem d_Inc_goOver_51 : decode prog_3_method_2_code 51 = .ok (.aload_n 1, 1) := by decide +kernel
theorem d_Inc_goOver_52 : decode prog_3_method_2_code 52 = .ok (.iload 4, 2) := by decide +kernel
theorem d_Inc_goOver_54 : decode prog_3_method_2_code 54 = .ok (.invokevirtual 48, 3) := by decide +kernel
theorem d_Inc_goOver_57 : decode prog_3_method_2_code 57 = .ok (.bipush 6, 2) := by decide +kernel
theorem d_Inc_goOver_59 : decode prog_3_method_2_code 59 = .ok (.if_icmp .ne 11, 3) := by decide +kernel
theorem d_Inc_goOver_62 : decode prog_3_method_2_code 62 = .ok (.aload_n 0, 1) := by decide +kernel
theorem d_Inc_goOver_63 : decode prog_3_method_2_code 63 = .ok (.aload_n 2, 1) := by decide +kernel
theorem d_Inc_goOver_64 : decode prog_3_method_2_code 64 = .ok (.invokevirtual 51, 3) := by decide +kernel
theorem d_Inc_goOver_67 : decode prog_3_method_2_code 67 = .ok (.goto 13, 3) := by decide +kernel
theorem d_Inc_goOver_70 : decode prog_3_method_2_code 70 = .ok (.aload_n 0, 1) := by decide +kernel
theorem d_Inc_goOver_71 : decode prog_3_method_2_code 71 = .ok (.aload_n 1, 1) := by decide +kernel
theorem d_Inc_goOver_72 : decode prog_3_method_2_code 72 = .ok (.iload 4, 2) := by decide +kernel
theorem d_Inc_goOver_74 : decode prog_3_method_2_code 74 = .ok (.invokevirtual 48, 3) := by decide +kernel
theorem d_Inc_goOver_77 : decode prog_3_method_2_code 77 = .ok (.invokevirtual 55, 3) := by decide +kernel
theorem d_Inc_goOver_80 : decode prog_3_method_2_code 80 = .ok (.iinc 4 1, 3) := by decide +kernel
theorem d_Inc_goOver_83 : decode prog_3_method_2_code 83 = .ok (.goto (-41), 3) := by decide +kernel
theorem d_Inc_goOver_86 : decode prog_3_method_2_code 86 = .ok (.return_, 1) := by decide +kernel
theorem d_Inc_howMany_0 : decode prog_3_method_3_code 0 = .ok (.aload_n 0, 1) := by decide +kernel
theorem d_Inc_howMany_1 : decode prog_3_method_3_code 1 = .ok (.getfield 14, 3) := by decide +kernel
theorem d_Inc_howMany_4 : decode prog_3_method_3_code 4 = .ok (.invokevirtual 44, 3) := by decide +kernel
theorem d_Inc_howMany_7 : decode prog_3_method_3_code 7 = .ok (.ireturn, 1) := by decide +kernel
theorem d_Inc_moduleAt_0 : decode prog_3_method_4_code 0 = .ok (.aload_n 0, 1) := by decide +kernel
theorem d_Inc_moduleAt_1 : decode prog_3_method_4_code 1 = .ok (.getfield 14, 3) := by decide +kernel
theorem d_Inc_moduleAt_4 : decode prog_3_method_4_code 4 = .ok (.iload_n 1, 1) := by decide +kernel
theorem d_Inc_moduleAt_5 : decode prog_3_method_4_code 5 = .ok (.invokevirtual 48, 3) := by decide +kernel
theorem d_Inc_moduleAt_8 : decode prog_3_method_4_code 8 = .ok (.ireturn, 1) := by decide +kernel
theorem d_Inc_hasDouble_0 : decode prog_3_method_5_code 0 = .ok (.aload_n 0, 1) := by decide +kernel
theorem d_Inc_hasDouble_1 : decode prog_3_method_5_code 1 = .ok (.getfield 41, 3) := by decide +kernel
theorem d_Inc_hasDouble_4 : decode prog_3_method_5_code 4 = .ok (.ifCond .eq 7, 3) := by decide +kernel
theorem d_Inc_hasDouble_7 : decode prog_3_method_5_code 7 = .ok (.iconst 1, 1) := by decide +kernel
theorem d_Inc_hasDouble_8 : decode prog_3_method_5_code 8 = .ok (.goto 4, 3) := by decide +kernel
theorem d_Inc_hasDouble_11 : decode prog_3_method_5_code 11 = .ok (.iconst 0, 1) := by decide +kernel
theorem d_Inc_hasDouble_12 : decode prog_3_method_5_code 12 = .ok (.ireturn, 1) := by decide +kernel
theorem d_Inc_wantedNames_0 : decode prog_3_method_6_code 0 = .ok (.aload_n 0, 1) := by decide +kernel
theorem d_Inc_wantedNames_1 : decode prog_3_method_6_code 1 = .ok (.getfield 31, 3) := by decide +kernel
theorem d_Inc_wantedNames_4 : decode prog_3_method_6_code 4 = .ok (.aload_n 0, 1) := by decide +kernel
theorem d_Inc_wantedNames_5 : decode prog_3_method_6_code 5 = .ok (.getfield 35, 3) := by decide +kernel
theorem d_Inc_wantedNames_8 : decode prog_3_method_6_code 8 = .ok (.iconst (-1), 1) := by decide +kernel
theorem d_Inc_wantedNames_9 : decode prog_3_method_6_code 9 = .ok (.ixor, 1) := by decide +kernel
theorem d_Inc_wantedNames_10 : decode prog_3_method_6_code 10 = .ok (.iand, 1) := by decide +kernel
theorem d_Inc_wantedNames_11 : decode prog_3_method_6_code 11 = .ok (.aload_n 0, 1) := by decide +kernel
theorem d_Inc_wantedNames_12 : decode prog_3_method_6_code 12 = .ok (.getfield 38, 3) := by decide +kernel
theorem d_Inc_wantedNames_15 : decode prog_3_method_6_code 15 = .ok (.iconst (-1), 1) := by decide +kernel
theorem d_Inc_wantedNames_16 : decode prog_3_method_6_code 16 = .ok (.ixor, 1) := by decide +kernel
theorem d_Inc_wantedNames_17 : decode prog_3_method_6_code 17 = .ok (.iand, 1) := by decide +kernel
theorem d_Inc_wantedNames_18 : decode prog_3_method_6_code 18 = .ok (.ireturn, 1) := by decide +kernel
theorem d_Inc_isLoneCommon_0 : decode prog_3_method_7_code 0 = .ok (.aload_n 0, 1) := by decide +kernel
theorem d_Inc_isLoneCommon_1 : decode prog_3_method_7_code 1 = .ok (.getfield 38, 3) := by decide +kernel
theorem d_Inc_isLoneCommon_4 : decode prog_3_method_7_code 4 = .ok (.aload_n 0, 1) := by decide +kernel
theorem d_Inc_isLoneCommon_5 : decode prog_3_method_7_code 5 = .ok (.getfield 35, 3) := by decide +kernel
theorem d_Inc_isLoneCommon_8 : decode prog_3_method_7_code 8 = .ok (.iconst (-1), 1) := by decide +kernel
theorem d_Inc_isLoneCommon_9 : decode prog_3_method_7_code 9 = .ok (.ixor, 1) := by decide +kernel
theorem d_Inc_isLoneCommon_10 : decode prog_3_method_7_code 10 = .ok (.iand, 1) := by decide +kernel
theorem d_Inc_isLoneCommon_11 : decode prog_3_method_7_code 11 = .ok (.iload_n 1, 1) := by decide +kernel
theorem d_Inc_isLoneCommon_12 : decode prog_3_method_7_code 12 = .ok (.invokestatic 58, 3) := by decide +kernel
theorem d_Inc_isLoneCommon_15 : decode prog_3_method_7_code 15 = .ok (.ireturn, 1) := by decide +kernel
theorem d_Inc_search_0 : decode prog_3_method_8_code 0 = .ok (.iconst 0, 1) := by decide +kernel
theorem d_Inc_search_1 : decode prog_3_method_8_code 1 = .ok (.istore_n 2, 1) := by decide +kernel
theorem d_Inc_search_2 : decode prog_3_method_8_code 2 = .ok (.iload_n 2, 1) := by decide +kernel
theorem d_Inc_search_3 : decode prog_3_method_8_code 3 = .ok (.bipush 6, 2) := by decide +kernel
theorem d_Inc_search_5 : decode prog_3_method_8_code 5 = .ok (.if_icmp .gt 18, 3) := by decide +kernel
theorem d_Inc_search_8 : decode prog_3_method_8_code 8 = .ok (.aload_n 0, 1) := by decide +kernel
theorem d_Inc_search_9 : decode prog_3_method_8_code 9 = .ok (.aload_n 1, 1) := by decide +kernel
theorem d_Inc_search_10 : decode prog_3_method_8_code 10 = .ok (.invokevirtual 62, 3) := by decide +kernel
theorem d_Inc_search_13 : decode prog_3_method_8_code 13 = .ok (.ifCond .ne 4, 3) := by decide +kernel
theorem d_Inc_search_16 : decode prog_3_method_8_code 16 = .ok (.return_, 1) := by decide +kernel
theorem d_Inc_search_17 : decode prog_3_method_8_code 17 = .ok (.iinc 2 1, 3) := by decide +kernel
theorem d_Inc_search_20 : decode prog_3_method_8_code 20 = .ok (.goto (-18), 3) := by decide +kernel
theorem d_Inc_search_23 : decode prog_3_method_8_code 23 = .ok (.return_, 1) := by decide +kernel
theorem d_Inc_includeWantedMembers_0 : decode prog_3_method_9_code 0 = .ok (.iconst 0, 1) := by decide +kernel
theorem d_Inc_includeWantedMembers_1 : decode prog_3_method_9_code 1 = .ok (.istore_n 2, 1) := by decide +kernel
theorem d_Inc_includeWantedMembers_2 : decode prog_3_method_9_code 2 = .ok (.iconst 0, 1) := by decide +kernel
theorem d_Inc_includeWantedMembers_3 : decode prog_3_method_9_code 3 = .ok (.istore_n 3, 1) := by decide +kernel
theorem d_Inc_includeWantedMembers_4 : decode prog_3_method_9_code 4 = .ok (.iload_n 3, 1) := by decide +kernel
theorem d_Inc_includeWantedMembers_5 : decode prog_3_method_9_code 5 = .ok (.aload_n 1, 1) := by decide +kernel
theorem d_Inc_includeWantedMembers_6 : decode prog_3_method_9_code 6 = .ok (.invokevirtual 44, 3) := by decide +kernel
theorem d_Inc_includeWantedMembers_9 : decode prog_3_method_9_code 9 = .ok (.if_icmp .ge 45, 3) := by decide +kernel
theorem d_Inc_includeWantedMembers_12 : decode prog_3_method_9_code 12 = .ok (.aload_n 1, 1) := by decide +kernel
theorem d_Inc_includeWantedMembers_13 : decode prog_3_method_9_code 13 = .ok (.iload_n 3, 1) := by decide +kernel
theorem d_Inc_includeWantedMembers_14 : decode prog_3_method_9_code 14 = .ok (.invokevirtual 48, 3) := by decide +kernel
theorem d_Inc_includeWantedMembers_17 : decode prog_3_method_9_code 17 = .ok (.istore 4, 2) := by decide +kernel
theorem d_Inc_includeWantedMembers_19 : decode prog_3_method_9_code 19 = .ok (.aload_n 0, 1) := by decide +kernel
theorem d_Inc_includeWantedMembers_20 : decode prog_3_method_9_code 20 = .ok (.getfield 14, 3) := by decide +kernel
theorem d_Inc_includeWantedMembers_23 : decode prog_3_method_9_code 23 = .ok (.iload 4, 2) := by decide +kernel
theorem d_Inc_includeWantedMembers_25 : decode prog_3_method_9_code 25 = .ok (.invokevirtual 66, 3) := by decide +kernel
theorem d_Inc_includeWantedMembers_28 : decode prog_3_method_9_code 28 = .ok (.ifCond .ne 20, 3) := by decide +kernel
theorem d_Inc_includeWantedMembers_31 : decode prog_3_method_9_code 31 = .ok (.aload_n 0, 1) := by decide +kernel
theorem d_Inc_includeWantedMembers_32 : decode prog_3_method_9_code 32 = .ok (.iload 4, 2) := by decide +kernel
theorem d_Inc_includeWantedMembers_34 : decode prog_3_method_9_code 34 = .ok (.invokevirtual 70, 3) := by decide +kernel
theorem d_Inc_includeWantedMembers_37 : decode prog_3_method_9_code 37 = .ok (.ifCond .eq 11, 3) := by decide +kernel
theorem d_Inc_includeWantedMembers_40 : decode prog_3_method_9_code 40 = .ok (.aload_n 0, 1) := by decide +kernel
theorem d_Inc_includeWantedMembers_41 : decode prog_3_method_9_code 41 = .ok (.iload 4, 2) := by decide +kernel
theorem d_Inc_includeWantedMembers_43 : decode prog_3_method_9_code 43 = .ok (.invokevirtual 55, 3) := by decide +kernel
theorem d_Inc_includeWantedMembers_46 : decode prog_3_method_9_code 46 = .ok (.iconst 1, 1) := by decide +kernel
theorem d_Inc_includeWantedMembers_47 : decode prog_3_method_9_code 47 = .ok (.istore_n 2, 1) := by decide +kernel
theorem d_Inc_includeWantedMembers_48 : decode prog_3_method_9_code 48 = .ok (.iinc 3 1, 3) := by decide +kernel
theorem d_Inc_includeWantedMembers_51 : decode prog_3_method_9_code 51 = .ok (.goto (-47), 3) := by decide +kernel
theorem d_Inc_includeWantedMembers_54 : decode prog_3_method_9_code 54 = .ok (.iload_n 2, 1) := by decide +kernel
theorem d_Inc_includeWantedMembers_55 : decode prog_3_method_9_code 55 = .ok (.ireturn, 1) := by decide +kernel
theorem d_Inc_exportsWantedName_0 : decode prog_3_method_10_code 0 = .ok (.aload_n 0, 1) := by decide +kernel
theorem d_Inc_exportsWantedName_1 : decode prog_3_method_10_code 1 = .ok (.getfield 20, 3) := by decide +kernel
theorem d_Inc_exportsWantedName_4 : decode prog_3_method_10_code 4 = .ok (.iload_n 1, 1) := by decide +kernel
theorem d_Inc_exportsWantedName_5 : decode prog_3_method_10_code 5 = .ok (.aaload, 1) := by decide +kernel
theorem d_Inc_exportsWantedName_6 : decode prog_3_method_10_code 6 = .ok (.invokevirtual 73, 3) := by decide +kernel
theorem d_Inc_exportsWantedName_9 : decode prog_3_method_10_code 9 = .ok (.aload_n 0, 1) := by decide +kernel
theorem d_Inc_exportsWantedName_10 : decode prog_3_method_10_code 10 = .ok (.invokevirtual 77, 3) := by decide +kernel
theorem d_Inc_exportsWantedName_13 : decode prog_3_method_10_code 13 = .ok (.iand, 1) := by decide +kernel
theorem d_Inc_exportsWantedName_14 : decode prog_3_method_10_code 14 = .ok (.ifCond .eq 7, 3) := by decide +kernel
theorem d_Inc_exportsWantedName_17 : decode prog_3_method_10_code 17 = .ok (.iconst 1, 1) := by decide +kernel
theorem d_Inc_exportsWantedName_18 : decode prog_3_method_10_code 18 = .ok (.goto 4, 3) := by decide +kernel
theorem d_Inc_exportsWantedName_21 : decode prog_3_method_10_code 21 = .ok (.iconst 0, 1) := by decide +kernel
theorem d_Inc_exportsWantedName_22 : decode prog_3_method_10_code 22 = .ok (.ireturn, 1) := by decide +kernel
theorem d_Inc_include_0 : decode prog_3_method_11_code 0 = .ok (.aload_n 0, 1) := by decide +kernel
theorem d_Inc_include_1 : decode prog_3_method_11_code 1 = .ok (.getfield 20, 3) := by decide +kernel
theorem d_Inc_include_4 : decode prog_3_method_11_code 4 = .ok (.iload_n 1, 1) := by decide +kernel
theorem d_Inc_include_5 : decode prog_3_method_11_code 5 = .ok (.aaload, 1) := by decide +kernel
theorem d_Inc_include_6 : decode prog_3_method_11_code 6 = .ok (.astore_n 2, 1) := by decide +kernel
theorem d_Inc_include_7 : decode prog_3_method_11_code 7 = .ok (.aload_n 0, 1) := by decide +kernel
theorem d_Inc_include_8 : decode prog_3_method_11_code 8 = .ok (.getfield 14, 3) := by decide +kernel
theorem d_Inc_include_11 : decode prog_3_method_11_code 11 = .ok (.iload_n 1, 1) := by decide +kernel
theorem d_Inc_include_12 : decode prog_3_method_11_code 12 = .ok (.invokevirtual 80, 3) := by decide +kernel
theorem d_Inc_include_15 : decode prog_3_method_11_code 15 = .ok (.pop, 1) := by decide +kernel
theorem d_Inc_include_16 : decode prog_3_method_11_code 16 = .ok (.aload_n 0, 1) := by decide +kernel
theorem d_Inc_include_17 : decode prog_3_method_11_code 17 = .ok (.dup, 1) := by decide +kernel
theorem d_Inc_include_18 : decode prog_3_method_11_code 18 = .ok (.getfield 41, 3) := by decide +kernel
theorem d_Inc_include_21 : decode prog_3_method_11_code 21 = .ok (.aload_n 0, 1) := by decide +kernel
theorem d_Inc_include_22 : decode prog_3_method_11_code 22 = .ok (.getfield 35, 3) := by decide +kernel
theorem d_Inc_include_25 : decode prog_3_method_11_code 25 = .ok (.aload_n 2, 1) := by decide +kernel
theorem d_Inc_include_26 : decode prog_3_method_11_code 26 = .ok (.invokevirtual 73, 3) := by decide +kernel
theorem d_Inc_include_29 : decode prog_3_method_11_code 29 = .ok (.iand, 1) := by decide +kernel
theorem d_Inc_include_30 : decode prog_3_method_11_code 30 = .ok (.ior, 1) := by decide +kernel
theorem d_Inc_include_31 : decode prog_3_method_11_code 31 = .ok (.putfield 41, 3) := by decide +kernel
theorem d_Inc_include_34 : decode prog_3_method_11_code 34 = .ok (.aload_n 0, 1) := by decide +kernel
theorem d_Inc_include_35 : decode prog_3_method_11_code 35 = .ok (.dup, 1) := by decide +kernel
theorem d_Inc_include_36 : decode prog_3_method_11_code 36 = .ok (.getfield 35, 3) := by decide +kernel
theorem d_Inc_include_39 : decode prog_3_method_11_code 39 = .ok (.aload_n 2, 1) := by decide +kernel
theorem d_Inc_include_40 : decode prog_3_method_11_code 40 = .ok (.invokevirtual 73, 3) := by decide +kernel
theorem d_Inc_include_43 : decode prog_3_method_11_code 43 = .ok (.ior, 1) := by decide +kernel
theorem d_Inc_include_44 : decode prog_3_method_11_code 44 = .ok (.putfield 35, 3) := by decide +kernel
theorem d_Inc_include_47 : decode prog_3_method_11_code 47 = .ok (.aload_n 0, 1) := by decide +kernel
theorem d_Inc_include_48 : decode prog_3_method_11_code 48 = .ok (.dup, 1) := by decide +kernel
theorem d_Inc_include_49 : decode prog_3_method_11_code 49 = .ok (.getfield 38, 3) := by decide +kernel
theorem d_Inc_include_52 : decode prog_3_method_11_code 52 = .ok (.aload_n 2, 1) := by decide +kernel
theorem d_Inc_include_53 : decode prog_3_method_11_code 53 = .ok (.invokevirtual 83, 3) := by decide +kernel
theorem d_Inc_include_56 : decode prog_3_method_11_code 56 = .ok (.ior, 1) := by decide +kernel
theorem d_Inc_include_57 : decode prog_3_method_11_code 57 = .ok (.putfield 38, 3) := by decide +kernel
theorem d_Inc_include_60 : decode prog_3_method_11_code 60 = .ok (.aload_n 0, 1) := by decide +kernel
theorem d_Inc_include_61 : decode prog_3_method_11_code 61 = .ok (.dup, 1) := by decide +kernel
theorem d_Inc_include_62 : decode prog_3_method_11_code 62 = .ok (.getfield 31, 3) := by decide +kernel
theorem d_Inc_include_65 : decode prog_3_method_11_code 65 = .ok (.aload_n 2, 1) := by decide +kernel
theorem d_Inc_include_66 : decode prog_3_method_11_code 66 = .ok (.invokevirtual 86, 3) := by decide +kernel
theorem d_Inc_include_69 : decode prog_3_method_11_code 69 = .ok (.ior, 1) := by decide +kernel
theorem d_Inc_include_70 : decode prog_3_method_11_code 70 = .ok (.putfield 31, 3) := by decide +kernel
theorem d_Inc_include_73 : decode prog_3_method_11_code 73 = .ok (.return_, 1) := by decide +kernel
theorem d_Mac_init_0 : decode prog_4_method_1_code 0 = .ok (.aload_n 0, 1) := by decide +kernel
theorem d_Mac_init_1 : decode prog_4_method_1_code 1 = .ok (.invokespecial 3, 3) := by decide +kernel
theorem d_Mac_init_4 : decode prog_4_method_1_code 4 = .ok (.aload_n 0, 1) := by decide +kernel
theorem d_Mac_init_5 : decode prog_4_method_1_code 5 = .ok (.sipush 200, 3) := by decide +kernel
theorem d_Mac_init_8 : decode prog_4_method_1_code 8 = .ok (.newarray .int, 2) := by decide +kernel
theorem d_Mac_init_10 : decode prog_4_method_1_code 10 = .ok (.putfield 9, 3) := by decide +kernel
theorem d_Mac_init_13 : decode prog_4_method_1_code 13 = .ok (.aload_n 0, 1) := by decide +kernel
theorem d_Mac_init_14 : decode prog_4_method_1_code 14 = .ok (.bipush 8, 2) := by decide +kernel
theorem d_Mac_init_16 : decode prog_4_method_1_code 16 = .ok (.newarray .int, 2) := by decide +kernel
theorem d_Mac_init_18 : decode prog_4_method_1_code 18 = .ok (.putfield 15, 3) := by decide +kernel
theorem d_Mac_init_21 : decode prog_4_method_1_code 21 = .ok (.aload_n 0, 1) := by decide +kernel
theorem d_Mac_init_22 : decode prog_4_method_1_code 22 = .ok (.iconst 4, 1) := by decide +kernel
theorem d_Mac_init_23 : decode prog_4_method_1_code 23 = .ok (.newarray .int, 2) := by decide +kernel
theorem d_Mac_init_25 : decode prog_4_method_1_code 25 = .ok (.putfield 18, 3) := by decide +kernel
theorem d_Mac_init_28 : decode prog_4_method_1_code 28 = .ok (.return_, 1) := by decide +kernel
theorem d_Mac_throwAway_0 : decode prog_4_method_2_code 0 = .ok (.aload_n 0, 1) := by decide +kernel
theorem d_Mac_throwAway_1 : decode prog_4_method_2_code 1 = .ok (.iconst 0, 1) := by decide +kernel
theorem d_Mac_throwAway_2 : decode prog_4_method_2_code 2 = .ok (.putfield 21, 3) := by decide +kernel
theorem d_Mac_throwAway_5 : decode prog_4_method_2_code 5 = .ok (.return_, 1) := by decide +kernel
theorem d_Mac_isThere_0 : decode prog_4_method_3_code 0 = .ok (.aload_n 0, 1) := by decide +kernel
theorem d_Mac_isThere_1 : decode prog_4_method_3_code 1 = .ok (.getfield 21, 3) := by decide +kernel
theorem d_Mac_isThere_4 : decode prog_4_method_3_code 4 = .ok (.ireturn, 1) := by decide +kernel
theorem d_Mac_begin_0 : decode prog_4_method_4_code 0 = .ok (.aload_n 0, 1) := by decide +kernel
theorem d_Mac_begin_1 : decode prog_4_method_4_code 1 = .ok (.aload_n 1, 1) := by decide +kernel
theorem d_Mac_begin_2 : decode prog_4_method_4_code 2 = .ok (.invokevirtual 25, 3) := by decide +kernel
theorem d_Mac_begin_5 : decode prog_4_method_4_code 5 = .ok (.putfield 31, 3) := by decide +kernel
theorem d_Mac_begin_8 : decode prog_4_method_4_code 8 = .ok (.aload_n 0, 1) := by decide +kernel
theorem d_Mac_begin_9 : decode prog_4_method_4_code 9 = .ok (.aload_n 1, 1) := by decide +kernel
theorem d_Mac_begin_10 : decode prog_4_method_4_code 10 = .ok (.invokevirtual 35, 3) := by decide +kernel
theorem d_Mac_begin_13 : decode prog_4_method_4_code 13 = .ok (.putfield 38, 3) := by decide +kernel
theorem d_Mac_begin_16 : decode prog_4_method_4_code 16 = .ok (.iconst 0, 1) := by decide +kernel
theorem d_Mac_begin_17 : decode prog_4_method_4_code 17 = .ok (.istore_n 2, 1) := by decide +kernel
theorem d_Mac_begin_18 : decode prog_4_method_4_code 18 = .ok (.iload_n 2, 1) := by decide +kernel
theorem d_Mac_begin_19 : decode prog_4_method_4_code 19 = .ok (.aload_n 0, 1) := by decide +kernel
theorem d_Mac_begin_20 : decode prog_4_method_4_code 20 = .ok (.getfield 31, 3) := by decide +kernel
theorem d_Mac_begin_23 : decode prog_4_method_4_code 23 = .ok (.if_icmp .ge 20, 3) := by decide +kernel
theorem d_Mac_begin_26 : decode prog_4_method_4_code 26 = .ok (.aload_n 0, 1) := by decide +kernel
theorem d_Mac_begin_27 : decode prog_4_method_4_code 27 = .ok (.getfield 9, 3) := by decide +kernel
theorem d_Mac_begin_30 : decode prog_4_method_4_code 30 = .ok (.iload_n 2, 1) := by decide +kernel
theorem d_Mac_begin_31 : decode prog_4_method_4_code 31 = .ok (.aload_n 1, 1) := by decide +kernel
theorem d_Mac_begin_32 : decode prog_4_method_4_code 32 = .ok (.iload_n 2, 1) := by decide +kernel
theorem d_Mac_begin_33 : decode prog_4_method_4_code 33 = .ok (.invokevirtual 40, 3) := by decide +kernel
theorem d_Mac_begin_36 : decode prog_4_method_4_code 36 = .ok (.iastore, 1) := by decide +kernel
theorem d_Mac_begin_37 : decode prog_4_method_4_code 37 = .ok (.iinc 2 1, 3) := by decide +kernel
theorem d_Mac_begin_40 : decode prog_4_method_4_code 40 = .ok (.goto (-22), 3) := by decide +kernel
theorem d_Mac_begin_43 : decode prog_4_method_4_code 43 = .ok (.aload_n 0, 1) := by decide +kernel
theorem d_Mac_begin_44 : decode prog_4_method_4_code 44 = .ok (.iconst 0, 1) := by decide +kernel
theorem d_Mac_begin_45 : decode prog_4_method_4_code 45 = .ok (.putfield 44, 3) := by decide +kernel
theorem d_Mac_begin_48 : decode prog_4_method_4_code 48 = .ok (.aload_n 0, 1) := by decide +kernel
theorem d_Mac_begin_49 : decode prog_4_method_4_code 49 = .ok (.iconst 0, 1) := by decide +kernel
theorem d_Mac_begin_50 : decode prog_4_method_4_code 50 = .ok (.putfield 47, 3) := by decide +kernel
theorem d_Mac_begin_53 : decode prog_4_method_4_code 53 = .ok (.aload_n 0, 1) := by decide +kernel
theorem d_Mac_begin_54 : decode prog_4_method_4_code 54 = .ok (.aload_n 1, 1) := by decide +kernel
theorem d_Mac_begin_55 : decode prog_4_method_4_code 55 = .ok (.invokevirtual 50, 3) := by decide +kernel
theorem d_Mac_begin_58 : decode prog_4_method_4_code 58 = .ok (.putfield 53, 3) := by decide +kernel
theorem d_Mac_begin_61 : decode prog_4_method_4_code 61 = .ok (.aload_n 0, 1) := by decide +kernel
theorem d_Mac_begin_62 : decode prog_4_method_4_code 62 = .ok (.iconst 0, 1) := by decide +kernel
theorem d_Mac_begin_63 : decode prog_4_method_4_code 63 = .ok (.putfield 56, 3) := by decide +kernel
theorem d_Mac_begin_66 : decode prog_4_method_4_code 66 = .ok (.aload_n 0, 1) := by decide +kernel
theorem d_Mac_begin_67 : decode prog_4_method_4_code 67 = .ok (.iconst 0, 1) := by decide +kernel
theorem d_Mac_begin_68 : decode prog_4_method_4_code 68 = .ok (.putfield 59, 3) := by decide +kernel
theorem d_Mac_begin_71 : decode prog_4_method_4_code 71 = .ok (.aload_n 0, 1) := by decide +kernel
theorem d_Mac_begin_72 : decode prog_4_method_4_code 72 = .ok (.iconst 0, 1) := by decide +kernel
theorem d_Mac_begin_73 : decode prog_4_method_4_code 73 = .ok (.putfield 62, 3) := by decide +kernel
theorem d_Mac_begin_76 : decode prog_4_method_4_code 76 = .ok (.aload_n 0, 1) := by decide +kernel
theorem d_Mac_begin_77 : decode prog_4_method_4_code 77 = .ok (.iconst 0, 1) := by decide +kernel
theorem d_Mac_begin_78 : decode prog_4_method_4_code 78 = .ok (.putfield 65, 3) := by decide +kernel
theorem d_Mac_begin_81 : decode prog_4_method_4_code 81 = .ok (.aload_n 0, 1) := by decide +kernel
theorem d_Mac_begin_82 : decode prog_4_method_4_code 82 = .ok (.iconst 1, 1) := by decide +kernel
theorem d_Mac_begin_83 : decode prog_4_method_4_code 83 = .ok (.putfield 21, 3) := by decide +kernel
theorem d_Mac_begin_86 : decode prog_4_method_4_code 86 = .ok (.return_, 1) := by decide +kernel
theorem d_Mac_putOnTape_0 : decode prog_4_method_5_code 0 = .ok (.aload_n 0, 1) := by decide +kernel
theorem d_Mac_putOnTape_1 : decode prog_4_method_5_code 1 = .ok (.getfield 21, 3) := by decide +kernel
theorem d_Mac_putOnTape_4 : decode prog_4_method_5_code 4 = .ok (.ifCond .eq 19, 3) := by decide +kernel
theorem d_Mac_putOnTape_7 : decode prog_4_method_5_code 7 = .ok (.iload_n 1, 1) := by decide +kernel
theorem d_Mac_putOnTape_8 : decode prog_4_method_5_code 8 = .ok (.invokestatic 68, 3) := by decide +kernel
theorem d_Mac_putOnTape_11 : decode prog_4_method_5_code 11 = .ok (.ifCond .eq 12, 3) := by decide +kernel
theorem d_Mac_putOnTape_14 : decode prog_4_method_5_code 14 = .ok (.aload_n 0, 1) := by decide +kernel
theorem d_Mac_putOnTape_15 : decode prog_4_method_5_code 15 = .ok (.getfield 59, 3) := by decide +kernel
theorem d_Mac_putOnTape_18 : decode prog_4_method_5_code 18 = .ok (.bipush 8, 2) := by decide +kernel
theorem d_Mac_putOnTape_20 : decode prog_4_method_5_code 20 = .ok (.if_icmp .lt 5, 3) := by decide +kernel
theorem d_Mac_putOnTape_23 : decode prog_4_method_5_code 23 = .ok (.iconst 0, 1) := by decide +kernel
theorem d_Mac_putOnTape_24 : decode prog_4_method_5_code 24 = .ok (.ireturn, 1) := by decide +kernel
theorem d_Mac_putOnTape_25 : decode prog_4_method_5_code 25 = .ok (.aload_n 0, 1) := by decide +kernel
theorem d_Mac_putOnTape_26 : decode prog_4_method_5_code 26 = .ok (.getfield 15, 3) := by decide +kernel
theorem d_Mac_putOnTape_29 : decode prog_4_method_5_code 29 = .ok (.aload_n 0, 1) := by decide +kernel
theorem d_Mac_putOnTape_30 : decode prog_4_method_5_code 30 = .ok (.getfield 59, 3) := by decide +kernel
theorem d_Mac_putOnTape_33 : decode prog_4_method_5_code 33 = .ok (.iload_n 1, 1) := by decide +kernel
theorem d_Mac_putOnTape_34 : decode prog_4_method_5_code 34 = .ok (.iastore, 1) := by decide +kernel
theorem d_Mac_putOnTape_35 : decode prog_4_method_5_code 35 = .ok (.aload_n 0, 1) := by decide +kernel
theorem d_Mac_putOnTape_36 : decode prog_4_method_5_code 36 = .ok (.dup, 1) := by decide +kernel
theorem d_Mac_putOnTape_37 : decode prog_4_method_5_code 37 = .ok (.getfield 59, 3) := by decide +kernel
theorem d_Mac_putOnTape_40 : decode prog_4_method_5_code 40 = .ok (.iconst 1, 1) := by decide +kernel
theorem d_Mac_putOnTape_41 : decode prog_4_method_5_code 41 = .ok (.iadd, 1) := by decide +kernel
theorem d_Mac_putOnTape_42 : decode prog_4_method_5_code 42 = .ok (.putfield 59, 3) := by decide +kernel
theorem d_Mac_putOnTape_45 : decode prog_4_method_5_code 45 = .ok (.iconst 1, 1) := by decide +kernel
theorem d_Mac_putOnTape_46 : decode prog_4_method_5_code 46 = .ok (.ireturn, 1) := by decide +kernel
theorem d_Mac_doSteps_0 : decode prog_4_method_6_code 0 = .ok (.iconst 0, 1) := by decide +kernel
theorem d_Mac_doSteps_1 : decode prog_4_method_6_code 1 = .ok (.istore_n 2, 1) := by decide +kernel
theorem d_Mac_doSteps_2 : decode prog_4_method_6_code 2 = .ok (.iload_n 2, 1) := by decide +kernel
theorem d_Mac_doSteps_3 : decode prog_4_method_6_code 3 = .ok (.iload_n 1, 1) := by decide +kernel
theorem d_Mac_doSteps_4 : decode prog_4_method_6_code 4 = .ok (.if_icmp .ge 40, 3) := by decide +kernel
theorem d_Mac_doSteps_7 : decode prog_4_method_6_code 7 = .ok (.aload_n 0, 1) := by decide +kernel
theorem d_Mac_doSteps_8 : decode prog_4_method_6_code 8 = .ok (.getfield 56, 3) := by decide +kernel
theorem d_Mac_doSteps_11 : decode prog_4_method_6_code 11 = .ok (.ifCond .eq 5, 3) := by decide +kernel
theorem d_Mac_doSteps_14 : decode prog_4_method_6_code 14 = .ok (.iload_n 2, 1) := by decide +kernel
theorem d_Mac_doSteps_15 : decode prog_4_method_6_code 15 = .ok (.ireturn, 1) := by decide +kernel
theorem d_Mac_doSteps_16 : decode prog_4_method_6_code 16 = .ok (.aload_n 0, 1) := by decide +kernel
theorem d_Mac_doSteps_17 : decode prog_4_method_6_code 17 = .ok (.invokevirtual 72, 3) := by decide +kernel
theorem d_Mac_doSteps_20 : decode prog_4_method_6_code 20 = .ok (.aload_n 0, 1) := by decide +kernel
theorem d_Mac_doSteps_21 : decode prog_4_method_6_code 21 = .ok (.getfield 56, 3) := by decide +kernel
theorem d_Mac_doSteps_24 : decode prog_4_method_6_code 24 = .ok (.iconst 2, 1) := by decide +kernel
theorem d_Mac_doSteps_25 : decode prog_4_method_6_code 25 = .ok (.if_icmp .eq 11, 3) := by decide +kernel
theorem d_Mac_doSteps_28 : decode prog_4_method_6_code 28 = .ok (.aload_n 0, 1) := by decide +kernel
theorem d_Mac_doSteps_29 : decode prog_4_method_6_code 29 = .ok (.getfield 56, 3) := by decide +kernel
theorem d_Mac_doSteps_32 : decode prog_4_method_6_code 32 = .ok (.iconst 3, 1) := by decide +kernel
theorem d_Mac_doSteps_33 : decode prog_4_method_6_code 33 = .ok (.if_icmp .ne 5, 3) := by decide +kernel
theorem d_Mac_doSteps_36 : decode prog_4_method_6_code 36 = .ok (.iload_n 2, 1) := by decide +kernel
theorem d_Mac_doSteps_37 : decode prog_4_method_6_code 37 = .ok (.ireturn, 1) := by decide +kernel
theorem d_Mac_doSteps_38 : decode prog_4_method_6_code 38 = .ok (.iinc 2 1, 3) := by decide +kernel
theorem d_Mac_doSteps_41 : decode prog_4_method_6_code 41 = .ok (.goto (-39), 3) := by decide +kernel
theorem d_Mac_doSteps_44 : decode prog_4_method_6_code 44 = .ok (.iload_n 1, 1) := by decide +kernel
theorem d_Mac_doSteps_45 : decode prog_4_method_6_code 45 = .ok (.ireturn, 1) := by decide +kernel
theorem d_Mac_registerAt_0 : decode prog_4_method_7_code 0 = .ok (.iload_n 1, 1) := by decide +kernel
theorem d_Mac_registerAt_1 : decode prog_4_method_7_code 1 = .ok (.tableswitch 60 0 4 #[35, 40, 45, 50, 55], 35) := by decide +kernel
theorem d_Mac_registerAt_36 : decode prog_4_method_7_code 36 = .ok (.aload_n 0, 1) := by decide +kernel
theorem d_Mac_registerAt_37 : decode prog_4_method_7_code 37 = .ok (.getfield 44, 3) := by decide +kernel
theorem d_Mac_registerAt_40 : decode prog_4_method_7_code 40 = .ok (.ireturn, 1) := by decide +kernel
theorem d_Mac_registerAt_41 : decode prog_4_method_7_code 41 = .ok (.aload_n 0, 1) := by decide +kernel
theorem d_Mac_registerAt_42 : decode prog_4_method_7_code 42 = .ok (.getfield 47, 3) := by decide +kernel
theorem d_Mac_registerAt_45 : decode prog_4_method_7_code 45 = .ok (.ireturn, 1) := by decide +kernel
theorem d_Mac_registerAt_46 : decode prog_4_method_7_code 46 = .ok (.aload_n 0, 1) := by decide +kernel
theorem d_Mac_registerAt_47 : decode prog_4_method_7_code 47 = .ok (.getfield 53, 3) := by decide +kernel
theorem d_Mac_registerAt_50 : decode prog_4_method_7_code 50 = .ok (.ireturn, 1) := by decide +kernel
theorem d_Mac_registerAt_51 : decode prog_4_method_7_code 51 = .ok (.aload_n 0, 1) := by decide +kernel
theorem d_Mac_registerAt_52 : decode prog_4_method_7_code 52 = .ok (.getfield 56, 3) := by decide +kernel
theorem d_Mac_registerAt_55 : decode prog_4_method_7_code 55 = .ok (.ireturn, 1) := by decide +kernel
theorem d_Mac_registerAt_56 : decode prog_4_method_7_code 56 = .ok (.aload_n 0, 1) := by decide +kernel
theorem d_Mac_registerAt_57 : decode prog_4_method_7_code 57 = .ok (.getfield 65, 3) := by decide +kernel
theorem d_Mac_registerAt_60 : decode prog_4_method_7_code 60 = .ok (.ireturn, 1) := by decide +kernel
theorem d_Mac_registerAt_61 : decode prog_4_method_7_code 61 = .ok (.aload_n 0, 1) := by decide +kernel
theorem d_Mac_registerAt_62 : decode prog_4_method_7_code 62 = .ok (.iload_n 1, 1) := by decide +kernel
theorem d_Mac_registerAt_63 : decode prog_4_method_7_code 63 = .ok (.iconst 5, 1) := by decide +kernel
theorem d_Mac_registerAt_64 : decode prog_4_method_7_code 64 = .ok (.isub, 1) := by decide +kernel
theorem d_Mac_registerAt_65 : decode prog_4_method_7_code 65 = .ok (.invokevirtual 75, 3) := by decide +kernel
theorem d_Mac_registerAt_68 : decode prog_4_method_7_code 68 = .ok (.ireturn, 1) := by decide +kernel
theorem d_Mac_wordAt_0 : decode prog_4_method_8_code 0 = .ok (.aload_n 0, 1) := by decide +kernel
theorem d_Mac_wordAt_1 : decode prog_4_method_8_code 1 = .ok (.getfield 21, 3) := by decide +kernel
theorem d_Mac_wordAt_4 : decode prog_4_method_8_code 4 = .ok (.ifCond .eq 20, 3) := by decide +kernel
theorem d_Mac_wordAt_7 : decode prog_4_method_8_code 7 = .ok (.aload_n 0, 1) := by decide +kernel
theorem d_Mac_wordAt_8 : decode prog_4_method_8_code 8 = .ok (.iload_n 1, 1) := by decide +kernel
theorem d_Mac_wordAt_9 : decode prog_4_method_8_code 9 = .ok (.invokevirtual 78, 3) := by decide +kernel
theorem d_Mac_wordAt_12 : decode prog_4_method_8_code 12 = .ok (.ifCond .eq 12, 3) := by decide +kernel
theorem d_Mac_wordAt_15 : decode prog_4_method_8_code 15 = .ok (.aload_n 0, 1) := by decide +kernel
theorem d_Mac_wordAt_16 : decode prog_4_method_8_code 16 = .ok (.getfield 9, 3) := by decide +kernel
theorem d_Mac_wordAt_19 : decode prog_4_method_8_code 19 = .ok (.iload_n 1, 1) := by decide +kernel
theorem d_Mac_wordAt_20 : decode prog_4_method_8_code 20 = .ok (.iaload, 1) := by decide +kernel
theorem d_Mac_wordAt_21 : decode prog_4_method_8_code 21 = .ok (.goto 4, 3) := by decide +kernel
theorem d_Mac_wordAt_24 : decode prog_4_method_8_code 24 = .ok (.iconst (-1), 1) := by decide +kernel
theorem d_Mac_wordAt_25 : decode prog_4_method_8_code 25 = .ok (.ireturn, 1) := by decide +kernel
theorem d_Mac_latestWord_0 : decode prog_4_method_9_code 0 = .ok (.iload_n 1, 1) := by decide +kernel
theorem d_Mac_latestWord_1 : decode prog_4_method_9_code 1 = .ok (.iconst 0, 1) := by decide +kernel
theorem d_Mac_latestWord_2 : decode prog_4_method_9_code 2 = .ok (.iconst 3, 1) := by decide +kernel
theorem d_Mac_latestWord_3 : decode prog_4_method_9_code 3 = .ok (.invokestatic 81, 3) := by decide +kernel
theorem d_Mac_latestWord_6 : decode prog_4_method_9_code 6 = .ok (.ifCond .eq 20, 3) := by decide +kernel
theorem d_Mac_latestWord_9 : decode prog_4_method_9_code 9 = .ok (.iload_n 1, 1) := by decide +kernel
theorem d_Mac_latestWord_10 : decode prog_4_method_9_code 10 = .ok (.aload_n 0, 1) := by decide +kernel
theorem d_Mac_latestWord_11 : decode prog_4_method_9_code 11 = .ok (.getfield 65, 3) := by decide +kernel
theorem d_Mac_latestWord_14 : decode prog_4_method_9_code 14 = .ok (.if_icmp .ge 12, 3) := by decide +kernel
theorem d_Mac_latestWord_17 : decode prog_4_method_9_code 17 = .ok (.aload_n 0, 1) := by decide +kernel
theorem d_Mac_latestWord_18 : decode prog_4_method_9_code 18 = .ok (.getfield 18, 3) := by decide +kernel
theorem d_Mac_latestWord_21 : decode prog_4_method_9_code 21 = .ok (.iload_n 1, 1) := by decide +kernel
theorem d_Mac_latestWord_22 : decode prog_4_method_9_code 22 = .ok (.iaload, 1) := by decide +kernel
theorem d_Mac_latestWord_23 : decode prog_4_method_9_code 23 = .ok (.goto 4, 3) := by decide +kernel
theorem d_Mac_latestWord_26 : decode prog_4_method_9_code 26 = .ok (.iconst (-1), 1) := by decide +kernel
theorem d_Mac_latestWord_27 : decode prog_4_method_9_code 27 = .ok (.ireturn, 1) := by decide +kernel
theorem d_Mac_isInside_0 : decode prog_4_method_10_code 0 = .ok (.iload_n 1, 1) := by decide +kernel
theorem d_Mac_isInside_1 : decode prog_4_method_10_code 1 = .ok (.ifCond .lt 15, 3) := by decide +kernel
theorem d_Mac_isInside_4 : decode prog_4_method_10_code 4 = .ok (.iload_n 1, 1) := by decide +kernel
theorem d_Mac_isInside_5 : decode prog_4_method_10_code 5 = .ok (.aload_n 0, 1) := by decide +kernel
theorem d_Mac_isInside_6 : decode prog_4_method_10_code 6 = .ok (.getfield 31, 3) := by decide +kernel
theorem d_Mac_isInside_9 : decode prog_4_method_10_code 9 = .ok (.if_icmp .ge 7, 3) := by decide +kernel
theorem d_Mac_isInside_12 : decode prog_4_method_10_code 12 = .ok (.iconst 1, 1) := by decide +kernel
theorem d_Mac_isInside_13 : decode prog_4_method_10_code 13 = .ok (.goto 4, 3) := by decide +kernel
theorem d_Mac_isInside_16 : decode prog_4_method_10_code 16 = .ok (.iconst 0, 1) := by decide +kernel
theorem d_Mac_isInside_17 : decode prog_4_method_10_code 17 = .ok (.ireturn, 1) := by decide +kernel
theorem d_Mac_doStep_0 : decode prog_4_method_11_code 0 = .ok (.aload_n 0, 1) := by decide +kernel
theorem d_Mac_doStep_1 : decode prog_4_method_11_code 1 = .ok (.aload_n 0, 1) := by decide +kernel
theorem d_Mac_doStep_2 : decode prog_4_method_11_code 2 = .ok (.getfield 53, 3) := by decide +kernel
theorem d_Mac_doStep_5 : decode prog_4_method_11_code 5 = .ok (.invokevirtual 78, 3) := by decide +kernel
theorem d_Mac_doStep_8 : decode prog_4_method_11_code 8 = .ok (.ifCond .ne 9, 3) := by decide +kernel
theorem d_Mac_doStep_11 : decode prog_4_method_11_code 11 = .ok (.aload_n 0, 1) := by decide +kernel
theorem d_Mac_doStep_12 : decode prog_4_method_11_code 12 = .ok (.iconst 3, 1) := by decide +kernel
theorem d_Mac_doStep_13 : decode prog_4_method_11_code 13 = .ok (.putfield 56, 3) := by decide +kernel
theorem d_Mac_doStep_16 : decode prog_4_method_11_code 16 = .ok (.return_, 1) := by decide +kernel
theorem d_Mac_doStep_17 : decode prog_4_method_11_code 17 = .ok (.aload_n 0, 1) := by decide +kernel
theorem d_Mac_doStep_18 : decode prog_4_method_11_code 18 = .ok (.getfield 9, 3) := by decide +kernel
theorem d_Mac_doStep_21 : decode prog_4_method_11_code 21 = .ok (.aload_n 0, 1) := by decide +kernel
theorem d_Mac_doStep_22 : decode prog_4_method_11_code 22 = .ok (.getfield 53, 3) := by decide +kernel
theorem d_Mac_doStep_25 : decode prog_4_method_11_code 25 = .ok (.iaload, 1) := by decide +kernel
theorem d_Mac_doStep_26 : decode prog_4_method_11_code 26 = .ok (.sipush 4096, 3) := by decide +kernel
theorem d_Mac_doStep_29 : decode prog_4_method_11_code 29 = .ok (.idiv, 1) := by decide +kernel
theorem d_Mac_doStep_30 : decode prog_4_method_11_code 30 = .ok (.istore_n 1, 1) := by decide +kernel
theorem d_Mac_doStep_31 : decode prog_4_method_11_code 31 = .ok (.aload_n 0, 1) := by decide +kernel
theorem d_Mac_doStep_32 : decode prog_4_method_11_code 32 = .ok (.getfield 9, 3) := by decide +kernel
theorem d_Mac_doStep_35 : decode prog_4_method_11_code 35 = .ok (.aload_n 0, 1) := by decide +kernel
theorem d_Mac_doStep_36 : decode prog_4_method_11_code 36 = .ok (.getfield 53, 3) := by decide +kernel
theorem d_Mac_doStep_39 : decode prog_4_method_11_code 39 = .ok (.iaload, 1) := by decide +kernel
theorem d_Mac_doStep_40 : decode prog_4_method_11_code 40 = .ok (.sipush 4096, 3) := by decide +kernel
theorem d_Mac_doStep_43 : decode prog_4_method_11_code 43 = .ok (.irem, 1) := by decide +kernel
theorem d_Mac_doStep_44 : decode prog_4_method_11_code 44 = .ok (.istore_n 2, 1) := by decide +kernel
theorem d_Mac_doStep_45 : decode prog_4_method_11_code 45 = .ok (.iload_n 1, 1) := by decide +kernel
theorem d_Mac_doStep_46 : decode prog_4_method_11_code 46 = .ok (.bipush 13, 2) := by decide +kernel
theorem d_Mac_doStep_48 : decode prog_4_method_11_code 48 = .ok (.if_icmp .le 11, 3) := by decide +kernel
theorem d_Mac_doStep_51 : decode prog_4_method_11_code 51 = .ok (.aload_n 0, 1) := by decide +kernel
theorem d_Mac_doStep_52 : decode prog_4_method_11_code 52 = .ok (.iconst 2, 1) := by decide +kernel
theorem d_Mac_doStep_53 : decode prog_4_method_11_code 53 = .ok (.putfield 56, 3) := by decide +kernel
theorem d_Mac_doStep_56 : decode prog_4_method_11_code 56 = .ok (.goto 25, 3) := by decide +kernel
theorem d_Mac_doStep_59 : decode prog_4_method_11_code 59 = .ok (.iload_n 1, 1) := by decide +kernel
theorem d_Mac_doStep_60 : decode prog_4_method_11_code 60 = .ok (.invokestatic 85, 3) := by decide +kernel
theorem d_Mac_doStep_63 : decode prog_4_method_11_code 63 = .ok (.ifCond .eq 12, 3) := by decide +kernel
theorem d_Mac_doStep_66 : decode prog_4_method_11_code 66 = .ok (.aload_n 0, 1) := by decide +kernel
theorem d_Mac_doStep_67 : decode prog_4_method_11_code 67 = .ok (.iload_n 1, 1) := by decide +kernel
theorem d_Mac_doStep_68 : decode prog_4_method_11_code 68 = .ok (.iload_n 2, 1) := by decide +kernel
theorem d_Mac_doStep_69 : decode prog_4_method_11_code 69 = .ok (.invokevirtual 88, 3) := by decide +kernel
theorem d_Mac_doStep_72 : decode prog_4_method_11_code 72 = .ok (.goto 9, 3) := by decide +kernel
theorem d_Mac_doStep_75 : decode prog_4_method_11_code 75 = .ok (.aload_n 0, 1) := by decide +kernel
theorem d_Mac_doStep_76 : decode prog_4_method_11_code 76 = .ok (.iload_n 1, 1) := by decide +kernel
theorem d_Mac_doStep_77 : decode prog_4_method_11_code 77 = .ok (.iload_n 2, 1) := by decide +kernel
theorem d_Mac_doStep_78 : decode prog_4_method_11_code 78 = .ok (.invokevirtual 92, 3) := by decide +kernel
theorem d_Mac_doStep_81 : decode prog_4_method_11_code 81 = .ok (.return_, 1) := by decide +kernel
theorem d_Mac_isTwoWordsLong_0 : decode prog_4_method_12_code 0 = .ok (.iload_n 0, 1) := by decide +kernel
theorem d_Mac_isTwoWordsLong_1 : decode prog_4_method_12_code 1 = .ok (.iconst 1, 1) := by decide +kernel
theorem d_Mac_isTwoWordsLong_2 : decode prog_4_method_12_code 2 = .ok (.bipush 6, 2) := by decide +kernel
theorem d_Mac_isTwoWordsLong_4 : decode prog_4_method_12_code 4 = .ok (.invokestatic 81, 3) := by decide +kernel
theorem d_Mac_isTwoWordsLong_7 : decode prog_4_method_12_code 7 = .ok (.ifCond .ne 9, 3) := by decide +kernel
theorem d_Mac_isTwoWordsLong_10 : decode prog_4_method_12_code 10 = .ok (.iload_n 0, 1) := by decide +kernel
theorem d_Mac_isTwoWordsLong_11 : decode prog_4_method_12_code 11 = .ok (.bipush 8, 2) := by decide +kernel
theorem d_Mac_isTwoWordsLong_13 : decode prog_4_method_12_code 13 = .ok (.if_icmp .ne 7, 3) := by decide +kernel
theorem d_Mac_isTwoWordsLong_16 : decode prog_4_method_12_code 16 = .ok (.iconst 1, 1) := by decide +kernel
theorem d_Mac_isTwoWordsLong_17 : decode prog_4_method_12_code 17 = .ok (.goto 4, 3) := by decide +kernel
theorem d_Mac_isTwoWordsLong_20 : decode prog_4_method_12_code 20 = .ok (.iconst 0, 1) := by decide +kernel
theorem d_Mac_isTwoWordsLong_21 : decode prog_4_method_12_code 21 = .ok (.ireturn, 1) := by decide +kernel
theorem d_Mac_doTwoWords_0 : decode prog_4_method_13_code 0 = .ok (.aload_n 0, 1) := by decide +kernel
theorem d_Mac_doTwoWords_1 : decode prog_4_method_13_code 1 = .ok (.aload_n 0, 1) := by decide +kernel
theorem d_Mac_doTwoWords_2 : decode prog_4_method_13_code 2 = .ok (.getfield 53, 3) := by decide +kernel
theorem d_Mac_doTwoWords_5 : decode prog_4_method_13_code 5 = .ok (.iconst 1, 1) := by decide +kernel
theorem d_Mac_doTwoWords_6 : decode prog_4_method_13_code 6 = .ok (.iadd, 1) := by decide +kernel
theorem d_Mac_doTwoWords_7 : decode prog_4_method_13_code 7 = .ok (.invokevirtual 78, 3) := by decide +kernel
theorem d_Mac_doTwoWords_10 : decode prog_4_method_13_code 10 = .ok (.ifCond .eq 22, 3) := by decide +kernel
theorem d_Mac_doTwoWords_13 : decode prog_4_method_13_code 13 = .ok (.aload_n 0, 1) := by decide +kernel
theorem d_Mac_doTwoWords_14 : decode prog_4_method_13_code 14 = .ok (.iload_n 1, 1) := by decide +kernel
theorem d_Mac_doTwoWords_15 : decode prog_4_method_13_code 15 = .ok (.aload_n 0, 1) := by decide +kernel
theorem d_Mac_doTwoWords_16 : decode prog_4_method_13_code 16 = .ok (.getfield 9, 3) := by decide +kernel
theorem d_Mac_doTwoWords_19 : decode prog_4_method_13_code 19 = .ok (.aload_n 0, 1) := by decide +kernel
theorem d_Mac_doTwoWords_20 : decode prog_4_method_13_code 20 = .ok (.getfield 53, 3) := by decide +kernel
theorem d_Mac_doTwoWords_23 : decode prog_4_method_13_code 23 = .ok (.iconst 1, 1) := by decide +kernel
theorem d_Mac_doTwoWords_24 : decode prog_4_method_13_code 24 = .ok (.iadd, 1) := by decide +kernel
theorem d_Mac_doTwoWords_25 : decode prog_4_method_13_code 25 = .ok (.iaload, 1) := by decide +kernel
theorem d_Mac_doTwoWords_26 : decode prog_4_method_13_code 26 = .ok (.invokevirtual 95, 3) := by decide +kernel
theorem d_Mac_doTwoWords_29 : decode prog_4_method_13_code 29 = .ok (.ifCond .ne 9, 3) := by decide +kernel
theorem d_Mac_doTwoWords_32 : decode prog_4_method_13_code 32 = .ok (.aload_n 0, 1) := by decide +kernel
theorem d_Mac_doTwoWords_33 : decode prog_4_method_13_code 33 = .ok (.iconst 3, 1) := by decide +kernel
theorem d_Mac_doTwoWords_34 : decode prog_4_method_13_code 34 = .ok (.putfield 56, 3) := by decide +kernel
theorem d_Mac_doTwoWords_37 : decode prog_4_method_13_code 37 = .ok (.return_, 1) := by decide +kernel
theorem d_Mac_doTwoWords_38 : decode prog_4_method_13_code 38 = .ok (.aload_n 0, 1) := by decide +kernel
theorem d_Mac_doTwoWords_39 : decode prog_4_method_13_code 39 = .ok (.getfield 9, 3) := by decide +kernel
theorem d_Mac_doTwoWords_42 : decode prog_4_method_13_code 42 = .ok (.aload_n 0, 1) := by decide +kernel
theorem d_Mac_doTwoWords_43 : decode prog_4_method_13_code 43 = .ok (.getfield 53, 3) := by decide +kernel
theorem d_Mac_doTwoWords_46 : decode prog_4_method_13_code 46 = .ok (.iconst 1, 1) := by decide +kernel
theorem d_Mac_doTwoWords_47 : decode prog_4_method_13_code 47 = .ok (.iadd, 1) := by decide +kernel
theorem d_Mac_doTwoWords_48 : decode prog_4_method_13_code 48 = .ok (.iaload, 1) := by decide +kernel
theorem d_Mac_doTwoWords_49 : decode prog_4_method_13_code 49 = .ok (.istore_n 3, 1) := by decide +kernel
theorem d_Mac_doTwoWords_50 : decode prog_4_method_13_code 50 = .ok (.aload_n 0, 1) := by decide +kernel
theorem d_Mac_doTwoWords_51 : decode prog_4_method_13_code 51 = .ok (.getfield 53, 3) := by decide +kernel
theorem d_Mac_doTwoWords_54 : decode prog_4_method_13_code 54 = .ok (.iconst 2, 1) := by decide +kernel
theorem d_Mac_doTwoWords_55 : decode prog_4_method_13_code 55 = .ok (.iadd, 1) := by decide +kernel
theorem d_Mac_doTwoWords_56 : decode prog_4_method_13_code 56 = .ok (.invokestatic 99, 3) := by decide +kernel
theorem d_Mac_doTwoWords_59 : decode prog_4_method_13_code 59 = .ok (.istore 4, 2) := by decide +kernel
theorem d_Mac_doTwoWords_61 : decode prog_4_method_13_code 61 = .ok (.iload_n 1, 1) := by decide +kernel
theorem d_Mac_doTwoWords_62 : decode prog_4_method_13_code 62 = .ok (.tableswitch 126 1 6 #[38, 46, 59, 72, 93, 114], 38) := by decide +kernel
theorem d_Mac_doTwoWords_100 : decode prog_4_method_13_code 100 = .ok (.aload_n 0, 1) := by decide +kernel
theorem d_Mac_doTwoWords_101 : decode prog_4_method_13_code 101 = .ok (.iload_n 3, 1) := by decide +kernel
theorem d_Mac_doTwoWords_102 : decode prog_4_method_13_code 102 = .ok (.putfield 44, 3) := by decide +kernel
theorem d_Mac_doTwoWords_105 : decode prog_4_method_13_code 105 = .ok (.goto 99, 3) := by decide +kernel
theorem d_Mac_doTwoWords_108 : decode prog_4_method_13_code 108 = .ok (.aload_n 0, 1) := by decide +kernel
theorem d_Mac_doTwoWords_109 : decode prog_4_method_13_code 109 = .ok (.aload_n 0, 1) := by decide +kernel
theorem d_Mac_doTwoWords_110 : decode prog_4_method_13_code 110 = .ok (.getfield 9, 3) := by decide +kernel
theorem d_Mac_doTwoWords_113 : decode prog_4_method_13_code 113 = .ok (.iload_n 3, 1) := by decide +kernel
theorem d_Mac_doTwoWords_114 : decode prog_4_method_13_code 114 = .ok (.iaload, 1) := by decide +kernel
theorem d_Mac_doTwoWords_115 : decode prog_4_method_13_code 115 = .ok (.putfield 44, 3) := by decide +kernel
theorem d_Mac_doTwoWords_118 : decode prog_4_method_13_code 118 = .ok (.goto 86, 3) := by decide +kernel
theorem d_Mac_doTwoWords_121 : decode prog_4_method_13_code 121 = .ok (.aload_n 0, 1) := by decide +kernel
theorem d_Mac_doTwoWords_122 : decode prog_4_method_13_code 122 = .ok (.getfield 9, 3) := by decide +kernel
theorem d_Mac_doTwoWords_125 : decode prog_4_method_13_code 125 = .ok (.iload_n 3, 1) := by decide +kernel
theorem d_Mac_doTwoWords_126 : decode prog_4_method_13_code 126 = .ok (.aload_n 0, 1) := by decide +kernel
theorem d_Mac_doTwoWords_127 : decode prog_4_method_13_code 127 = .ok (.getfield 44, 3) := by decide +kernel
theorem d_Mac_doTwoWords_130 : decode prog_4_method_13_code 130 = .ok (.iastore, 1) := by decide +kernel
theorem d_Mac_doTwoWords_131 : decode prog_4_method_13_code 131 = .ok (.goto 73, 3) := by decide +kernel
theorem d_Mac_doTwoWords_134 : decode prog_4_method_13_code 134 = .ok (.aload_n 0, 1) := by decide +kernel
theorem d_Mac_doTwoWords_135 : decode prog_4_method_13_code 135 = .ok (.aload_n 0, 1) := by decide +kernel
theorem d_Mac_doTwoWords_136 : decode prog_4_method_13_code 136 = .ok (.getfield 44, 3) := by decide +kernel
theorem d_Mac_doTwoWords_139 : decode prog_4_method_13_code 139 = .ok (.aload_n 0, 1) := by decide +kernel
theorem d_Mac_doTwoWords_140 : decode prog_4_method_13_code 140 = .ok (.getfield 9, 3) := by decide +kernel
theorem d_Mac_doTwoWords_143 : decode prog_4_method_13_code 143 = .ok (.iload_n 3, 1) := by decide +kernel
theorem d_Mac_doTwoWords_144 : decode prog_4_method_13_code 144 = .ok (.iaload, 1) := by decide +kernel
theorem d_Mac_doTwoWords_145 : decode prog_4_method_13_code 145 = .ok (.iadd, 1) := by decide +kernel
theorem d_Mac_doTwoWords_146 : decode prog_4_method_13_code 146 = .ok (.invokestatic 99, 3) := by decide +kernel
theorem d_Mac_doTwoWords_149 : decode prog_4_method_13_code 149 = .ok (.putfield 44, 3) := by decide +kernel
theorem d_Mac_doTwoWords_152 : decode prog_4_method_13_code 152 = .ok (.goto 52, 3) := by decide +kernel
theorem d_Mac_doTwoWords_155 : decode prog_4_method_13_code 155 = .ok (.aload_n 0, 1) := by decide +kernel
theorem d_Mac_doTwoWords_156 : decode prog_4_method_13_code 156 = .ok (.aload_n 0, 1) := by decide +kernel
theorem d_Mac_doTwoWords_157 : decode prog_4_method_13_code 157 = .ok (.getfield 44, 3) := by decide +kernel
theorem d_Mac_doTwoWords_160 : decode prog_4_method_13_code 160 = .ok (.aload_n 0, 1) := by decide +kernel
theorem d_Mac_doTwoWords_161 : decode prog_4_method_13_code 161 = .ok (.getfield 9, 3) := by decide +kernel
theorem d_Mac_doTwoWords_164 : decode prog_4_method_13_code 164 = .ok (.iload_n 3, 1) := by decide +kernel
theorem d_Mac_doTwoWords_165 : decode prog_4_method_13_code 165 = .ok (.iaload, 1) := by decide +kernel
theorem d_Mac_doTwoWords_166 : decode prog_4_method_13_code 166 = .ok (.isub, 1) := by decide +kernel
theorem d_Mac_doTwoWords_167 : decode prog_4_method_13_code 167 = .ok (.invokestatic 99, 3) := by decide +kernel
theorem d_Mac_doTwoWords_170 : decode prog_4_method_13_code 170 = .ok (.putfield 44, 3) := by decide +kernel
theorem d_Mac_doTwoWords_173 : decode prog_4_method_13_code 173 = .ok (.goto 31, 3) := by decide +kernel
theorem d_Mac_doTwoWords_176 : decode prog_4_method_13_code 176 = .ok (.aload_n 0, 1) := by decide +kernel
theorem d_Mac_doTwoWords_177 : decode prog_4_method_13_code 177 = .ok (.iload 4, 2) := by decide +kernel
theorem d_Mac_doTwoWords_179 : decode prog_4_method_13_code 179 = .ok (.putfield 47, 3) := by decide +kernel
theorem d_Mac_doTwoWords_182 : decode prog_4_method_13_code 182 = .ok (.iload_n 3, 1) := by decide +kernel
theorem d_Mac_doTwoWords_183 : decode prog_4_method_13_code 183 = .ok (.istore 4, 2) := by decide +kernel
theorem d_Mac_doTwoWords_185 : decode prog_4_method_13_code 185 = .ok (.goto 19, 3) := by decide +kernel
theorem d_Mac_doTwoWords_188 : decode prog_4_method_13_code 188 = .ok (.aload_n 0, 1) := by decide +kernel
theorem d_Mac_doTwoWords_189 : decode prog_4_method_13_code 189 = .ok (.iload_n 2, 1) := by decide +kernel
theorem d_Mac_doTwoWords_190 : decode prog_4_method_13_code 190 = .ok (.invokevirtual 102, 3) := by decide +kernel
theorem d_Mac_doTwoWords_193 : decode prog_4_method_13_code 193 = .ok (.ifCond .eq 7, 3) := by decide +kernel
theorem d_Mac_doTwoWords_196 : decode prog_4_method_13_code 196 = .ok (.iload_n 3, 1) := by decide +kernel
theorem d_Mac_doTwoWords_197 : decode prog_4_method_13_code 197 = .ok (.goto 5, 3) := by decide +kernel
theorem d_Mac_doTwoWords_200 : decode prog_4_method_13_code 200 = .ok (.iload 4, 2) := by decide +kernel
theorem d_Mac_doTwoWords_202 : decode prog_4_method_13_code 202 = .ok (.istore 4, 2) := by decide +kernel
theorem d_Mac_doTwoWords_204 : decode prog_4_method_13_code 204 = .ok (.aload_n 0, 1) := by decide +kernel
theorem d_Mac_doTwoWords_205 : decode prog_4_method_13_code 205 = .ok (.iload 4, 2) := by decide +kernel
theorem d_Mac_doTwoWords_207 : decode prog_4_method_13_code 207 = .ok (.putfield 53, 3) := by decide +kernel
theorem d_Mac_doTwoWords_210 : decode prog_4_method_13_code 210 = .ok (.return_, 1) := by decide +kernel
theorem d_Mac_mayTouch_0 : decode prog_4_method_14_code 0 = .ok (.iload_n 1, 1) := by decide +kernel
theorem d_Mac_mayTouch_1 : decode prog_4_method_14_code 1 = .ok (.iconst 3, 1) := by decide +kernel
theorem d_Mac_mayTouch_2 : decode prog_4_method_14_code 2 = .ok (.if_icmp .ne 13, 3) := by decide +kernel
theorem d_Mac_mayTouch_5 : decode prog_4_method_14_code 5 = .ok (.iload_n 2, 1) := by decide +kernel
theorem d_Mac_mayTouch_6 : decode prog_4_method_14_code 6 = .ok (.aload_n 0, 1) := by decide +kernel
theorem d_Mac_mayTouch_7 : decode prog_4_method_14_code 7 = .ok (.getfield 38, 3) := by decide +kernel
theorem d_Mac_mayTouch_10 : decode prog_4_method_14_code 10 = .ok (.if_icmp .ge 5, 3) := by decide +kernel
theorem d_Mac_mayTouch_13 : decode prog_4_method_14_code 13 = .ok (.iconst 0, 1) := by decide +kernel
theorem d_Mac_mayTouch_14 : decode prog_4_method_14_code 14 = .ok (.ireturn, 1) := by decide +kernel
theorem d_Mac_mayTouch_15 : decode prog_4_method_14_code 15 = .ok (.iload_n 1, 1) := by decide +kernel
theorem d_Mac_mayTouch_16 : decode prog_4_method_14_code 16 = .ok (.iconst 2, 1) := by decide +kernel
theorem d_Mac_mayTouch_17 : decode prog_4_method_14_code 17 = .ok (.iconst 5, 1) := by decide +kernel
theorem d_Mac_mayTouch_18 : decode prog_4_method_14_code 18 = .ok (.invokestatic 81, 3) := by decide +kernel
theorem d_Mac_mayTouch_21 : decode prog_4_method_14_code 21 = .ok (.ifCond .eq 11, 3) := by decide +kernel
theorem d_Mac_mayTouch_24 : decode prog_4_method_14_code 24 = .ok (.aload_n 0, 1) := by decide +kernel
theorem d_Mac_mayTouch_25 : decode prog_4_method_14_code 25 = .ok (.iload_n 2, 1) := by decide +kernel
theorem d_Mac_mayTouch_26 : decode prog_4_method_14_code 26 = .ok (.invokevirtual 78, 3) := by decide +kernel
theorem d_Mac_mayTouch_29 : decode prog_4_method_14_code 29 = .ok (.ifCond .eq 7, 3) := by decide +kernel
theorem d_Mac_mayTouch_32 : decode prog_4_method_14_code 32 = .ok (.iconst 1, 1) := by decide +kernel
theorem d_Mac_mayTouch_33 : decode prog_4_method_14_code 33 = .ok (.goto 4, 3) := by decide +kernel
theorem d_Mac_mayTouch_36 : decode prog_4_method_14_code 36 = .ok (.iconst 0, 1) := by decide +kernel
theorem d_Mac_mayTouch_37 : decode prog_4_method_14_code 37 = .ok (.ireturn, 1) := by decide +kernel
theorem d_Mac_doOneWord_0 : decode prog_4_method_15_code 0 = .ok (.iload_n 1, 1) := by decide +kernel
theorem d_Mac_doOneWord_1 : decode prog_4_method_15_code 1 = .ok (.bipush 12, 2) := by decide +kernel
theorem d_Mac_doOneWord_3 : decode prog_4_method_15_code 3 = .ok (.if_icmp .ne 20, 3) := by decide +kernel
theorem d_Mac_doOneWord_6 : decode prog_4_method_15_code 6 = .ok (.aload_n 0, 1) := by decide +kernel
theorem d_Mac_doOneWord_7 : decode prog_4_method_15_code 7 = .ok (.aload_n 0, 1) := by decide +kernel
theorem d_Mac_doOneWord_8 : decode prog_4_method_15_code 8 = .ok (.getfield 44, 3) := by decide +kernel
theorem d_Mac_doOneWord_11 : decode prog_4_method_15_code 11 = .ok (.invokevirtual 78, 3) := by decide +kernel
theorem d_Mac_doOneWord_14 : decode prog_4_method_15_code 14 = .ok (.ifCond .ne 9, 3) := by decide +kernel
theorem d_Mac_doOneWord_17 : decode prog_4_method_15_code 17 = .ok (.aload_n 0, 1) := by decide +kernel
theorem d_Mac_doOneWord_18 : decode prog_4_method_15_code 18 = .ok (.iconst 3, 1) := by decide +kernel
theorem d_Mac_doOneWord_19 : decode prog_4_method_15_code 19 = .ok (.putfield 56, 3) := by decide +kernel
theorem d_Mac_doOneWord_22 : decode prog_4_method_15_code 22 = .ok (.return_, 1) := by decide +kernel
theorem d_Mac_doOneWord_23 : decode prog_4_method_15_code 23 = .ok (.aload_n 0, 1) := by decide +kernel
theorem d_Mac_doOneWord_24 : decode prog_4_method_15_code 24 = .ok (.getfield 53, 3) := by decide +kernel
theorem d_Mac_doOneWord_27 : decode prog_4_method_15_code 27 = .ok (.iconst 1, 1) := by decide +kernel
theorem d_Mac_doOneWord_28 : decode prog_4_method_15_code 28 = .ok (.iadd, 1) := by decide +kernel
theorem d_Mac_doOneWord_29 : decode prog_4_method_15_code 29 = .ok (.invokestatic 99, 3) := by decide +kernel
theorem d_Mac_doOneWord_32 : decode prog_4_method_15_code 32 = .ok (.istore_n 3, 1) := by decide +kernel
theorem d_Mac_doOneWord_33 : decode prog_4_method_15_code 33 = .ok (.iload_n 1, 1) := by decide +kernel
theorem d_Mac_doOneWord_34 : decode prog_4_method_15_code 34 = .ok (.tableswitch 150 0 12 #[66, 150, 150, 150, 150, 150, 150, 79, 150, 87, 116, 123, 134], 66) := by decide +kernel
theorem d_Mac_doOneWord_100 : decode prog_4_method_15_code 100 = .ok (.aload_n 0, 1) := by decide +kernel
theorem d_Mac_doOneWord_101 : decode prog_4_method_15_code 101 = .ok (.iconst 1, 1) := by decide +kernel
theorem d_Mac_doOneWord_102 : decode prog_4_method_15_code 102 = .ok (.putfield 56, 3) := by decide +kernel
theorem d_Mac_doOneWord_105 : decode prog_4_method_15_code 105 = .ok (.aload_n 0, 1) := by decide +kernel
theorem d_Mac_doOneWord_106 : decode prog_4_method_15_code 106 = .ok (.getfield 53, 3) := by decide +kernel
theorem d_Mac_doOneWord_109 : decode prog_4_method_15_code 109 = .ok (.istore_n 3, 1) := by decide +kernel
theorem d_Mac_doOneWord_110 : decode prog_4_method_15_code 110 = .ok (.goto 87, 3) := by decide +kernel
theorem d_Mac_doOneWord_113 : decode prog_4_method_15_code 113 = .ok (.aload_n 0, 1) := by decide +kernel
theorem d_Mac_doOneWord_114 : decode prog_4_method_15_code 114 = .ok (.getfield 47, 3) := by decide +kernel
theorem d_Mac_doOneWord_117 : decode prog_4_method_15_code 117 = .ok (.istore_n 3, 1) := by decide +kernel
theorem d_Mac_doOneWord_118 : decode prog_4_method_15_code 118 = .ok (.goto 79, 3) := by decide +kernel
theorem d_Mac_doOneWord_121 : decode prog_4_method_15_code 121 = .ok (.aload_n 0, 1) := by decide +kernel
theorem d_Mac_doOneWord_122 : decode prog_4_method_15_code 122 = .ok (.iload_n 2, 1) := by decide +kernel
theorem d_Mac_doOneWord_123 : decode prog_4_method_15_code 123 = .ok (.invokevirtual 102, 3) := by decide +kernel
theorem d_Mac_doOneWord_126 : decode prog_4_method_15_code 126 = .ok (.ifCond .eq 19, 3) := by decide +kernel
theorem d_Mac_doOneWord_129 : decode prog_4_method_15_code 129 = .ok (.iload_n 3, 1) := by decide +kernel
theorem d_Mac_doOneWord_130 : decode prog_4_method_15_code 130 = .ok (.iload_n 2, 1) := by decide +kernel
theorem d_Mac_doOneWord_131 : decode prog_4_method_15_code 131 = .ok (.sipush 256, 3) := by decide +kernel
theorem d_Mac_doOneWord_134 : decode prog_4_method_15_code 134 = .ok (.irem, 1) := by decide +kernel
theorem d_Mac_doOneWord_135 : decode prog_4_method_15_code 135 = .ok (.invokestatic 105, 3) := by decide +kernel
theorem d_Mac_doOneWord_138 : decode prog_4_method_15_code 138 = .ok (.iadd, 1) := by decide +kernel
theorem d_Mac_doOneWord_139 : decode prog_4_method_15_code 139 = .ok (.invokestatic 99, 3) := by decide +kernel
theorem d_Mac_doOneWord_142 : decode prog_4_method_15_code 142 = .ok (.goto 4, 3) := by decide +kernel
theorem d_Mac_doOneWord_145 : decode prog_4_method_15_code 145 = .ok (.iload_n 3, 1) := by decide +kernel
theorem d_Mac_doOneWord_146 : decode prog_4_method_15_code 146 = .ok (.istore_n 3, 1) := by decide +kernel
theorem d_Mac_doOneWord_147 : decode prog_4_method_15_code 147 = .ok (.goto 50, 3) := by decide +kernel
theorem d_Mac_doOneWord_150 : decode prog_4_method_15_code 150 = .ok (.aload_n 0, 1) := by decide +kernel
theorem d_Mac_doOneWord_151 : decode prog_4_method_15_code 151 = .ok (.invokevirtual 108, 3) := by decide +kernel
theorem d_Mac_doOneWord_154 : decode prog_4_method_15_code 154 = .ok (.goto 43, 3) := by decide +kernel
theorem d_Mac_doOneWord_157 : decode prog_4_method_15_code 157 = .ok (.aload_n 0, 1) := by decide +kernel
theorem d_Mac_doOneWord_158 : decode prog_4_method_15_code 158 = .ok (.aload_n 0, 1) := by decide +kernel
theorem d_Mac_doOneWord_159 : decode prog_4_method_15_code 159 = .ok (.invokevirtual 111, 3) := by decide +kernel
theorem d_Mac_doOneWord_162 : decode prog_4_method_15_code 162 = .ok (.putfield 44, 3) := by decide +kernel
theorem d_Mac_doOneWord_165 : decode prog_4_method_15_code 165 = .ok (.goto 32, 3) := by decide +kernel
theorem d_Mac_doOneWord_168 : decode prog_4_method_15_code 168 = .ok (.aload_n 0, 1) := by decide +kernel
theorem d_Mac_doOneWord_169 : decode prog_4_method_15_code 169 = .ok (.aload_n 0, 1) := by decide +kernel
theorem d_Mac_doOneWord_170 : decode prog_4_method_15_code 170 = .ok (.getfield 9, 3) := by decide +kernel
theorem d_Mac_doOneWord_173 : decode prog_4_method_15_code 173 = .ok (.aload_n 0, 1) := by decide +kernel
theorem d_Mac_doOneWord_174 : decode prog_4_method_15_code 174 = .ok (.getfield 44, 3) := by decide +kernel
theorem d_Mac_doOneWord_177 : decode prog_4_method_15_code 177 = .ok (.iaload, 1) := by decide +kernel
theorem d_Mac_doOneWord_178 : decode prog_4_method_15_code 178 = .ok (.putfield 44, 3) := by decide +kernel
theorem d_Mac_doOneWord_181 : decode prog_4_method_15_code 181 = .ok (.goto 16, 3) := by decide +kernel
theorem d_Mac_doOneWord_184 : decode prog_4_method_15_code 184 = .ok (.aload_n 0, 1) := by decide +kernel
theorem d_Mac_doOneWord_185 : decode prog_4_method_15_code 185 = .ok (.aload_n 0, 1) := by decide +kernel
theorem d_Mac_doOneWord_186 : decode prog_4_method_15_code 186 = .ok (.getfield 44, 3) := by decide +kernel
theorem d_Mac_doOneWord_189 : decode prog_4_method_15_code 189 = .ok (.iload_n 2, 1) := by decide +kernel
theorem d_Mac_doOneWord_190 : decode prog_4_method_15_code 190 = .ok (.bipush 16, 2) := by decide +kernel
theorem d_Mac_doOneWord_192 : decode prog_4_method_15_code 192 = .ok (.irem, 1) := by decide +kernel
theorem d_Mac_doOneWord_193 : decode prog_4_method_15_code 193 = .ok (.iushr, 1) := by decide +kernel
theorem d_Mac_doOneWord_194 : decode prog_4_method_15_code 194 = .ok (.putfield 44, 3) := by decide +kernel
theorem d_Mac_doOneWord_197 : decode prog_4_method_15_code 197 = .ok (.aload_n 0, 1) := by decide +kernel
theorem d_Mac_doOneWord_198 : decode prog_4_method_15_code 198 = .ok (.iload_n 3, 1) := by decide +kernel
theorem d_Mac_doOneWord_199 : decode prog_4_method_15_code 199 = .ok (.putfield 53, 3) := by decide +kernel
theorem d_Mac_doOneWord_202 : decode prog_4_method_15_code 202 = .ok (.return_, 1) := by decide +kernel
theorem d_Mac_signed_0 : decode prog_4_method_16_code 0 = .ok (.iload_n 0, 1) := by decide +kernel
theorem d_Mac_signed_1 : decode prog_4_method_16_code 1 = .ok (.bipush 127, 2) := by decide +kernel
theorem d_Mac_signed_3 : decode prog_4_method_16_code 3 = .ok (.if_icmp .le 11, 3) := by decide +kernel
theorem d_Mac_signed_6 : decode prog_4_method_16_code 6 = .ok (.iload_n 0, 1) := by decide +kernel
theorem d_Mac_signed_7 : decode prog_4_method_16_code 7 = .ok (.sipush 256, 3) := by decide +kernel
theorem d_Mac_signed_10 : decode prog_4_method_16_code 10 = .ok (.isub, 1) := by decide +kernel
theorem d_Mac_signed_11 : decode prog_4_method_16_code 11 = .ok (.goto 4, 3) := by decide +kernel
theorem d_Mac_signed_14 : decode prog_4_method_16_code 14 = .ok (.iload_n 0, 1) := by decide +kernel
theorem d_Mac_signed_15 : decode prog_4_method_16_code 15 = .ok (.ireturn, 1) := by decide +kernel
theorem d_Mac_conditionHolds_0 : decode prog_4_method_17_code 0 = .ok (.iload_n 1, 1) := by decide +kernel
theorem d_Mac_conditionHolds_1 : decode prog_4_method_17_code 1 = .ok (.sipush 256, 3) := by decide +kernel
theorem d_Mac_conditionHolds_4 : decode prog_4_method_17_code 4 = .ok (.idiv, 1) := by decide +kernel
theorem d_Mac_conditionHolds_5 : decode prog_4_method_17_code 5 = .ok (.iconst 4, 1) := by decide +kernel
theorem d_Mac_conditionHolds_6 : decode prog_4_method_17_code 6 = .ok (.irem, 1) := by decide +kernel
theorem d_Mac_conditionHolds_7 : decode prog_4_method_17_code 7 = .ok (.tableswitch 55 0 2 #[25, 27, 40], 25) := by decide +kernel
theorem d_Mac_conditionHolds_32 : decode prog_4_method_17_code 32 = .ok (.iconst 1, 1) := by decide +kernel
theorem d_Mac_conditionHolds_33 : decode prog_4_method_17_code 33 = .ok (.ireturn, 1) := by decide +kernel
theorem d_Mac_conditionHolds_34 : decode prog_4_method_17_code 34 = .ok (.aload_n 0, 1) := by decide +kernel
theorem d_Mac_conditionHolds_35 : decode prog_4_method_17_code 35 = .ok (.getfield 44, 3) := by decide +kernel
theorem d_Mac_conditionHolds_38 : decode prog_4_method_17_code 38 = .ok (.ifCond .ne 7, 3) := by decide +kernel
theorem d_Mac_conditionHolds_41 : decode prog_4_method_17_code 41 = .ok (.iconst 1, 1) := by decide +kernel
theorem d_Mac_conditionHolds_42 : decode prog_4_method_17_code 42 = .ok (.goto 4, 3) := by decide +kernel
theorem d_Mac_conditionHolds_45 : decode prog_4_method_17_code 45 = .ok (.iconst 0, 1) := by decide +kernel
theorem d_Mac_conditionHolds_46 : decode prog_4_method_17_code 46 = .ok (.ireturn, 1) := by decide +kernel
theorem d_Mac_conditionHolds_47 : decode prog_4_method_17_code 47 = .ok (.aload_n 0, 1) := by decide +kernel
theorem d_Mac_conditionHolds_48 : decode prog_4_method_17_code 48 = .ok (.getfield 44, 3) := by decide +kernel
theorem d_Mac_conditionHolds_51 : decode prog_4_method_17_code 51 = .ok (.ldc 114, 2) := by decide +kernel
theorem d_Mac_conditionHolds_53 : decode prog_4_method_17_code 53 = .ok (.if_icmp .lt 7, 3) := by decide +kernel
theorem d_Mac_conditionHolds_56 : decode prog_4_method_17_code 56 = .ok (.iconst 1, 1) := by decide +kernel
theorem d_Mac_conditionHolds_57 : decode prog_4_method_17_code 57 = .ok (.goto 4, 3) := by decide +kernel
theorem d_Mac_conditionHolds_60 : decode prog_4_method_17_code 60 = .ok (.iconst 0, 1) := by decide +kernel
theorem d_Mac_conditionHolds_61 : decode prog_4_method_17_code 61 = .ok (.ireturn, 1) := by decide +kernel
theorem d_Mac_conditionHolds_62 : decode prog_4_method_17_code 62 = .ok (.aload_n 0, 1) := by decide +kernel
theorem d_Mac_conditionHolds_63 : decode prog_4_method_17_code 63 = .ok (.getfield 44, 3) := by decide +kernel
theorem d_Mac_conditionHolds_66 : decode prog_4_method_17_code 66 = .ok (.ifCond .eq 7, 3) := by decide +kernel
theorem d_Mac_conditionHolds_69 : decode prog_4_method_17_code 69 = .ok (.iconst 1, 1) := by decide +kernel
theorem d_Mac_conditionHolds_70 : decode prog_4_method_17_code 70 = .ok (.goto 4, 3) := by decide +kernel
theorem d_Mac_conditionHolds_73 : decode prog_4_method_17_code 73 = .ok (.iconst 0, 1) := by decide +kernel
theorem d_Mac_conditionHolds_74 : decode prog_4_method_17_code 74 = .ok (.ireturn, 1) := by decide +kernel
theorem d_Mac_putOutA_0 : decode prog_4_method_18_code 0 = .ok (.iconst 3, 1) := by decide +kernel
theorem d_Mac_putOutA_1 : decode prog_4_method_18_code 1 = .ok (.istore_n 1, 1) := by decide +kernel
theorem d_Mac_putOutA_2 : decode prog_4_method_18_code 2 = .ok (.iload_n 1, 1) := by decide +kernel
theorem d_Mac_putOutA_3 : decode prog_4_method_18_code 3 = .ok (.ifCond .le 23, 3) := by decide +kernel
theorem d_Mac_putOutA_6 : decode prog_4_method_18_code 6 = .ok (.aload_n 0, 1) := by decide +kernel
theorem d_Mac_putOutA_7 : decode prog_4_method_18_code 7 = .ok (.getfield 18, 3) := by decide +kernel
theorem d_Mac_putOutA_10 : decode prog_4_method_18_code 10 = .ok (.iload_n 1, 1) := by decide +kernel
theorem d_Mac_putOutA_11 : decode prog_4_method_18_code 11 = .ok (.aload_n 0, 1) := by decide +kernel
theorem d_Mac_putOutA_12 : decode prog_4_method_18_code 12 = .ok (.getfield 18, 3) := by decide +kernel
theorem d_Mac_putOutA_15 : decode prog_4_method_18_code 15 = .ok (.iload_n 1, 1) := by decide +kernel
theorem d_Mac_putOutA_16 : decode prog_4_method_18_code 16 = .ok (.iconst 1, 1) := by decide +kernel
theorem d_Mac_putOutA_17 : decode prog_4_method_18_code 17 = .ok (.isub, 1) := by decide +kernel
theorem d_Mac_putOutA_18 : decode prog_4_method_18_code 18 = .ok (.iaload, 1) := by decide +kernel
theorem d_Mac_putOutA_19 : decode prog_4_method_18_code 19 = .ok (.iastore, 1) := by decide +kernel
theorem d_Mac_putOutA_20 : decode prog_4_method_18_code 20 = .ok (.iinc 1 (-1), 3) := by decide +kernel
theorem d_Mac_putOutA_23 : decode prog_4_method_18_code 23 = .ok (.goto (-21), 3) := by decide +kernel
theorem d_Mac_putOutA_26 : decode prog_4_method_18_code 26 = .ok (.aload_n 0, 1) := by decide +kernel
theorem d_Mac_putOutA_27 : decode prog_4_method_18_code 27 = .ok (.getfield 18, 3) := by decide +kernel
theorem d_Mac_putOutA_30 : decode prog_4_method_18_code 30 = .ok (.iconst 0, 1) := by decide +kernel
theorem d_Mac_putOutA_31 : decode prog_4_method_18_code 31 = .ok (.aload_n 0, 1) := by decide +kernel
theorem d_Mac_putOutA_32 : decode prog_4_method_18_code 32 = .ok (.getfield 44, 3) := by decide +kernel
theorem d_Mac_putOutA_35 : decode prog_4_method_18_code 35 = .ok (.iastore, 1) := by decide +kernel
theorem d_Mac_putOutA_36 : decode prog_4_method_18_code 36 = .ok (.aload_n 0, 1) := by decide +kernel
theorem d_Mac_putOutA_37 : decode prog_4_method_18_code 37 = .ok (.dup, 1) := by decide +kernel
theorem d_Mac_putOutA_38 : decode prog_4_method_18_code 38 = .ok (.getfield 65, 3) := by decide +kernel
theorem d_Mac_putOutA_41 : decode prog_4_method_18_code 41 = .ok (.iconst 1, 1) := by decide +kernel
theorem d_Mac_putOutA_42 : decode prog_4_method_18_code 42 = .ok (.iadd, 1) := by decide +kernel
theorem d_Mac_putOutA_43 : decode prog_4_method_18_code 43 = .ok (.putfield 65, 3) := by decide +kernel
theorem d_Mac_putOutA_46 : decode prog_4_method_18_code 46 = .ok (.return_, 1) := by decide +kernel
theorem d_Mac_nextOfTape_0 : decode prog_4_method_19_code 0 = .ok (.aload_n 0, 1) := by decide +kernel
theorem d_Mac_nextOfTape_1 : decode prog_4_method_19_code 1 = .ok (.getfield 62, 3) := by decide +kernel
theorem d_Mac_nextOfTape_4 : decode prog_4_method_19_code 4 = .ok (.aload_n 0, 1) := by decide +kernel
theorem d_Mac_nextOfTape_5 : decode prog_4_method_19_code 5 = .ok (.getfield 59, 3) := by decide +kernel
theorem d_Mac_nextOfTape_8 : decode prog_4_method_19_code 8 = .ok (.if_icmp .lt 5, 3) := by decide +kernel
theorem d_Mac_nextOfTape_11 : decode prog_4_method_19_code 11 = .ok (.iconst 0, 1) := by decide +kernel
theorem d_Mac_nextOfTape_12 : decode prog_4_method_19_code 12 = .ok (.ireturn, 1) := by decide +kernel
theorem d_Mac_nextOfTape_13 : decode prog_4_method_19_code 13 = .ok (.aload_n 0, 1) := by decide +kernel
theorem d_Mac_nextOfTape_14 : decode prog_4_method_19_code 14 = .ok (.getfield 15, 3) := by decide +kernel
theorem d_Mac_nextOfTape_17 : decode prog_4_method_19_code 17 = .ok (.aload_n 0, 1) := by decide +kernel
theorem d_Mac_nextOfTape_18 : decode prog_4_method_19_code 18 = .ok (.getfield 62, 3) := by decide +kernel
theorem d_Mac_nextOfTape_21 : decode prog_4_method_19_code 21 = .ok (.iaload, 1) := by decide +kernel
theorem d_Mac_nextOfTape_22 : decode prog_4_method_19_code 22 = .ok (.istore_n 1, 1) := by decide +kernel
theorem d_Mac_nextOfTape_23 : decode prog_4_method_19_code 23 = .ok (.aload_n 0, 1) := by decide +kernel
theorem d_Mac_nextOfTape_24 : decode prog_4_method_19_code 24 = .ok (.dup, 1) := by decide +kernel
theorem d_Mac_nextOfTape_25 : decode prog_4_method_19_code 25 = .ok (.getfield 62, 3) := by decide +kernel
