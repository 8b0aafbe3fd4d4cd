theorem d8_init_0 : decode b8_init 0 = .ok (.aload_n 0, 1) := by decide +kernel
theorem d8_init_1 : decode b8_init 1 = .ok (.invokespecial 1, 3) := by decide +kernel
theorem d8_init_4 : decode b8_init 4 = .ok (.aload_n 0, 1) := by decide +kernel
theorem d8_init_5 : decode b8_init 5 = .ok (.bipush 6, 2) := by decide +kernel
theorem d8_init_7 : decode b8_init 7 = .ok (.anewarray 9, 3) := by decide +kernel
theorem d8_init_10 : decode b8_init 10 = .ok (.putfield 11, 3) := by decide +kernel
theorem d8_init_13 : decode b8_init 13 = .ok (.iconst 0, 1) := by decide +kernel
theorem d8_init_14 : decode b8_init 14 = .ok (.istore_n 1, 1) := by decide +kernel
theorem d8_init_15 : decode b8_init 15 = .ok (.iload_n 1, 1) := by decide +kernel
theorem d8_init_16 : decode b8_init 16 = .ok (.bipush 6, 2) := by decide +kernel
theorem d8_init_18 : decode b8_init 18 = .ok (.if_icmp .ge 22, 3) := by decide +kernel
theorem d8_init_21 : decode b8_init 21 = .ok (.aload_n 0, 1) := by decide +kernel
theorem d8_init_22 : decode b8_init 22 = .ok (.getfield 11, 3) := by decide +kernel
theorem d8_init_25 : decode b8_init 25 = .ok (.iload_n 1, 1) := by decide +kernel
theorem d8_init_26 : decode b8_init 26 = .ok (.new 9, 3) := by decide +kernel
theorem d8_init_29 : decode b8_init 29 = .ok (.dup, 1) := by decide +kernel
theorem d8_init_30 : decode b8_init 30 = .ok (.invokespecial 15, 3) := by decide +kernel
theorem d8_init_33 : decode b8_init 33 = .ok (.aastore, 1) := by decide +kernel
theorem d8_init_34 : decode b8_init 34 = .ok (.iinc 1 1, 3) := by decide +kernel
theorem d8_init_37 : decode b8_init 37 = .ok (.goto (-22), 3) := by decide +kernel
theorem d8_init_40 : decode b8_init 40 = .ok (.aload_n 0, 1) := by decide +kernel
theorem d8_init_41 : decode b8_init 41 = .ok (.bipush 8, 2) := by decide +kernel
theorem d8_init_43 : decode b8_init 43 = .ok (.newarray .int, 2) := by decide +kernel
theorem d8_init_45 : decode b8_init 45 = .ok (.putfield 16, 3) := by decide +kernel
theorem d8_init_48 : decode b8_init 48 = .ok (.iconst 0, 1) := by decide +kernel
theorem d8_init_49 : decode b8_init 49 = .ok (.istore_n 1, 1) := by decide +kernel
theorem d8_init_50 : decode b8_init 50 = .ok (.iload_n 1, 1) := by decide +kernel
theorem d8_init_51 : decode b8_init 51 = .ok (.bipush 8, 2) := by decide +kernel
theorem d8_init_53 : decode b8_init 53 = .ok (.if_icmp .ge 16, 3) := by decide +kernel
theorem d8_init_56 : decode b8_init 56 = .ok (.aload_n 0, 1) := by decide +kernel
theorem d8_init_57 : decode b8_init 57 = .ok (.getfield 16, 3) := by decide +kernel
theorem d8_init_60 : decode b8_init 60 = .ok (.iload_n 1, 1) := by decide +kernel
theorem d8_init_61 : decode b8_init 61 = .ok (.iconst (-1), 1) := by decide +kernel
theorem d8_init_62 : decode b8_init 62 = .ok (.iastore, 1) := by decide +kernel
theorem d8_init_63 : decode b8_init 63 = .ok (.iinc 1 1, 3) := by decide +kernel
theorem d8_init_66 : decode b8_init 66 = .ok (.goto (-16), 3) := by decide +kernel
theorem d8_init_69 : decode b8_init 69 = .ok (.aload_n 0, 1) := by decide +kernel
theorem d8_init_70 : decode b8_init 70 = .ok (.iconst 3, 1) := by decide +kernel
theorem d8_init_71 : decode b8_init 71 = .ok (.newarray .int, 2) := by decide +kernel
theorem d8_init_73 : decode b8_init 73 = .ok (.putfield 20, 3) := by decide +kernel
theorem d8_init_76 : decode b8_init 76 = .ok (.aload_n 0, 1) := by decide +kernel
theorem d8_init_77 : decode b8_init 77 = .ok (.new 23, 3) := by decide +kernel
theorem d8_init_80 : decode b8_init 80 = .ok (.dup, 1) := by decide +kernel
theorem d8_init_81 : decode b8_init 81 = .ok (.aload_n 0, 1) := by decide +kernel
theorem d8_init_82 : decode b8_init 82 = .ok (.getfield 11, 3) := by decide +kernel
theorem d8_init_85 : decode b8_init 85 = .ok (.invokespecial 25, 3) := by decide +kernel
theorem d8_init_88 : decode b8_init 88 = .ok (.putfield 28, 3) := by decide +kernel
theorem d8_init_91 : decode b8_init 91 = .ok (.aload_n 0, 1) := by decide +kernel
theorem d8_init_92 : decode b8_init 92 = .ok (.new 32, 3) := by decide +kernel
theorem d8_init_95 : decode b8_init 95 = .ok (.dup, 1) := by decide +kernel
theorem d8_init_96 : decode b8_init 96 = .ok (.aload_n 0, 1) := by decide +kernel
theorem d8_init_97 : decode b8_init 97 = .ok (.getfield 11, 3) := by decide +kernel
theorem d8_init_100 : decode b8_init 100 = .ok (.aload_n 0, 1) := by decide +kernel
theorem d8_init_101 : decode b8_init 101 = .ok (.getfield 16, 3) := by decide +kernel
theorem d8_init_104 : decode b8_init 104 = .ok (.invokespecial 34, 3) := by decide +kernel
theorem d8_init_107 : decode b8_init 107 = .ok (.putfield 37, 3) := by decide +kernel
theorem d8_init_110 : decode b8_init 110 = .ok (.return_, 1) := by decide +kernel
theorem d8_shape_0 : decode b8_shape 0 = .ok (.iload_n 1, 1) := by decide +kernel
theorem d8_shape_1 : decode b8_shape 1 = .ok (.invokestatic 41, 3) := by decide +kernel
theorem d8_shape_4 : decode b8_shape 4 = .ok (.ifCond .eq 27, 3) := by decide +kernel
theorem d8_shape_7 : decode b8_shape 7 = .ok (.iload_n 2, 1) := by decide +kernel
theorem d8_shape_8 : decode b8_shape 8 = .ok (.invokestatic 45, 3) := by decide +kernel
theorem d8_shape_11 : decode b8_shape 11 = .ok (.ifCond .eq 20, 3) := by decide +kernel
theorem d8_shape_14 : decode b8_shape 14 = .ok (.iload_n 3, 1) := by decide +kernel
theorem d8_shape_15 : decode b8_shape 15 = .ok (.ifCond .lt 16, 3) := by decide +kernel
theorem d8_shape_18 : decode b8_shape 18 = .ok (.iload_n 3, 1) := by decide +kernel
theorem d8_shape_19 : decode b8_shape 19 = .ok (.iconst 3, 1) := by decide +kernel
theorem d8_shape_20 : decode b8_shape 20 = .ok (.if_icmp .gt 11, 3) := by decide +kernel
theorem d8_shape_23 : decode b8_shape 23 = .ok (.iload 4, 2) := by decide +kernel
theorem d8_shape_25 : decode b8_shape 25 = .ok (.invokestatic 45, 3) := by decide +kernel
theorem d8_shape_28 : decode b8_shape 28 = .ok (.ifCond .ne 11, 3) := by decide +kernel
theorem d8_shape_31 : decode b8_shape 31 = .ok (.new 48, 3) := by decide +kernel
theorem d8_shape_34 : decode b8_shape 34 = .ok (.dup, 1) := by decide +kernel
theorem d8_shape_35 : decode b8_shape 35 = .ok (.invokespecial 50, 3) := by decide +kernel
theorem d8_shape_38 : decode b8_shape 38 = .ok (.athrow, 1) := by decide +kernel
theorem d8_shape_39 : decode b8_shape 39 = .ok (.aload_n 0, 1) := by decide +kernel
theorem d8_shape_40 : decode b8_shape 40 = .ok (.getfield 51, 3) := by decide +kernel
theorem d8_shape_43 : decode b8_shape 43 = .ok (.iconst 1, 1) := by decide +kernel
theorem d8_shape_44 : decode b8_shape 44 = .ok (.if_icmp .ne 11, 3) := by decide +kernel
theorem d8_shape_47 : decode b8_shape 47 = .ok (.new 55, 3) := by decide +kernel
theorem d8_shape_50 : decode b8_shape 50 = .ok (.dup, 1) := by decide +kernel
theorem d8_shape_51 : decode b8_shape 51 = .ok (.invokespecial 57, 3) := by decide +kernel
theorem d8_shape_54 : decode b8_shape 54 = .ok (.athrow, 1) := by decide +kernel
theorem d8_shape_55 : decode b8_shape 55 = .ok (.aload_n 0, 1) := by decide +kernel
theorem d8_shape_56 : decode b8_shape 56 = .ok (.iconst 0, 1) := by decide +kernel
theorem d8_shape_57 : decode b8_shape 57 = .ok (.putfield 58, 3) := by decide +kernel
theorem d8_shape_60 : decode b8_shape 60 = .ok (.aload_n 0, 1) := by decide +kernel
theorem d8_shape_61 : decode b8_shape 61 = .ok (.getfield 11, 3) := by decide +kernel
theorem d8_shape_64 : decode b8_shape 64 = .ok (.iload_n 1, 1) := by decide +kernel
theorem d8_shape_65 : decode b8_shape 65 = .ok (.aaload, 1) := by decide +kernel
theorem d8_shape_66 : decode b8_shape 66 = .ok (.iload_n 2, 1) := by decide +kernel
theorem d8_shape_67 : decode b8_shape 67 = .ok (.iload_n 3, 1) := by decide +kernel
theorem d8_shape_68 : decode b8_shape 68 = .ok (.iload 4, 2) := by decide +kernel
theorem d8_shape_70 : decode b8_shape 70 = .ok (.invokevirtual 62, 3) := by decide +kernel
theorem d8_shape_73 : decode b8_shape 73 = .ok (.aload_n 0, 1) := by decide +kernel
theorem d8_shape_74 : decode b8_shape 74 = .ok (.getfield 11, 3) := by decide +kernel
theorem d8_shape_77 : decode b8_shape 77 = .ok (.iload_n 1, 1) := by decide +kernel
theorem d8_shape_78 : decode b8_shape 78 = .ok (.aaload, 1) := by decide +kernel
theorem d8_shape_79 : decode b8_shape 79 = .ok (.invokevirtual 66, 3) := by decide +kernel
theorem d8_shape_82 : decode b8_shape 82 = .ok (.ireturn, 1) := by decide +kernel
theorem d8_code_0 : decode b8_code 0 = .ok (.iload_n 1, 1) := by decide +kernel
theorem d8_code_1 : decode b8_code 1 = .ok (.invokestatic 41, 3) := by decide +kernel
theorem d8_code_4 : decode b8_code 4 = .ok (.ifCond .eq 16, 3) := by decide +kernel
theorem d8_code_7 : decode b8_code 7 = .ok (.iload 4, 2) := by decide +kernel
theorem d8_code_9 : decode b8_code 9 = .ok (.iconst 1, 1) := by decide +kernel
theorem d8_code_10 : decode b8_code 10 = .ok (.if_icmp .lt 10, 3) := by decide +kernel
theorem d8_code_13 : decode b8_code 13 = .ok (.iload 4, 2) := by decide +kernel
theorem d8_code_15 : decode b8_code 15 = .ok (.bipush 8, 2) := by decide +kernel
theorem d8_code_17 : decode b8_code 17 = .ok (.if_icmp .le 11, 3) := by decide +kernel
theorem d8_code_20 : decode b8_code 20 = .ok (.new 48, 3) := by decide +kernel
theorem d8_code_23 : decode b8_code 23 = .ok (.dup, 1) := by decide +kernel
theorem d8_code_24 : decode b8_code 24 = .ok (.invokespecial 50, 3) := by decide +kernel
theorem d8_code_27 : decode b8_code 27 = .ok (.athrow, 1) := by decide +kernel
theorem d8_code_28 : decode b8_code 28 = .ok (.aload_n 0, 1) := by decide +kernel
theorem d8_code_29 : decode b8_code 29 = .ok (.getfield 51, 3) := by decide +kernel
theorem d8_code_32 : decode b8_code 32 = .ok (.iconst 1, 1) := by decide +kernel
theorem d8_code_33 : decode b8_code 33 = .ok (.if_icmp .ne 11, 3) := by decide +kernel
theorem d8_code_36 : decode b8_code 36 = .ok (.new 55, 3) := by decide +kernel
theorem d8_code_39 : decode b8_code 39 = .ok (.dup, 1) := by decide +kernel
theorem d8_code_40 : decode b8_code 40 = .ok (.invokespecial 57, 3) := by decide +kernel
theorem d8_code_43 : decode b8_code 43 = .ok (.athrow, 1) := by decide +kernel
theorem d8_code_44 : decode b8_code 44 = .ok (.aload_n 0, 1) := by decide +kernel
theorem d8_code_45 : decode b8_code 45 = .ok (.getfield 11, 3) := by decide +kernel
theorem d8_code_48 : decode b8_code 48 = .ok (.iload_n 1, 1) := by decide +kernel
theorem d8_code_49 : decode b8_code 49 = .ok (.aaload, 1) := by decide +kernel
theorem d8_code_50 : decode b8_code 50 = .ok (.invokevirtual 70, 3) := by decide +kernel
theorem d8_code_53 : decode b8_code 53 = .ok (.iload 4, 2) := by decide +kernel
theorem d8_code_55 : decode b8_code 55 = .ok (.iadd, 1) := by decide +kernel
theorem d8_code_56 : decode b8_code 56 = .ok (.bipush 60, 2) := by decide +kernel
theorem d8_code_58 : decode b8_code 58 = .ok (.if_icmp .le 11, 3) := by decide +kernel
theorem d8_code_61 : decode b8_code 61 = .ok (.new 73, 3) := by decide +kernel
theorem d8_code_64 : decode b8_code 64 = .ok (.dup, 1) := by decide +kernel
theorem d8_code_65 : decode b8_code 65 = .ok (.invokespecial 75, 3) := by decide +kernel
theorem d8_code_68 : decode b8_code 68 = .ok (.athrow, 1) := by decide +kernel
theorem d8_code_69 : decode b8_code 69 = .ok (.aload_n 0, 1) := by decide +kernel
theorem d8_code_70 : decode b8_code 70 = .ok (.iconst 0, 1) := by decide +kernel
theorem d8_code_71 : decode b8_code 71 = .ok (.putfield 58, 3) := by decide +kernel
theorem d8_code_74 : decode b8_code 74 = .ok (.iload 4, 2) := by decide +kernel
theorem d8_code_76 : decode b8_code 76 = .ok (.iconst 1, 1) := by decide +kernel
theorem d8_code_77 : decode b8_code 77 = .ok (.isub, 1) := by decide +kernel
theorem d8_code_78 : decode b8_code 78 = .ok (.istore 5, 2) := by decide +kernel
theorem d8_code_80 : decode b8_code 80 = .ok (.iload 5, 2) := by decide +kernel
theorem d8_code_82 : decode b8_code 82 = .ok (.ifCond .lt 30, 3) := by decide +kernel
theorem d8_code_85 : decode b8_code 85 = .ok (.aload_n 0, 1) := by decide +kernel
theorem d8_code_86 : decode b8_code 86 = .ok (.getfield 11, 3) := by decide +kernel
theorem d8_code_89 : decode b8_code 89 = .ok (.iload_n 1, 1) := by decide +kernel
theorem d8_code_90 : decode b8_code 90 = .ok (.aaload, 1) := by decide +kernel
theorem d8_code_91 : decode b8_code 91 = .ok (.lload_n 2, 1) := by decide +kernel
theorem d8_code_92 : decode b8_code 92 = .ok (.bipush 8, 2) := by decide +kernel
theorem d8_code_94 : decode b8_code 94 = .ok (.iload 5, 2) := by decide +kernel
theorem d8_code_96 : decode b8_code 96 = .ok (.imul, 1) := by decide +kernel
theorem d8_code_97 : decode b8_code 97 = .ok (.lushr, 1) := by decide +kernel
theorem d8_code_98 : decode b8_code 98 = .ok (.l2i, 1) := by decide +kernel
theorem d8_code_99 : decode b8_code 99 = .ok (.sipush 255, 3) := by decide +kernel
theorem d8_code_102 : decode b8_code 102 = .ok (.iand, 1) := by decide +kernel
theorem d8_code_103 : decode b8_code 103 = .ok (.invokevirtual 76, 3) := by decide +kernel
theorem d8_code_106 : decode b8_code 106 = .ok (.iinc 5 (-1), 3) := by decide +kernel
theorem d8_code_109 : decode b8_code 109 = .ok (.goto (-29), 3) := by decide +kernel
theorem d8_code_112 : decode b8_code 112 = .ok (.aload_n 0, 1) := by decide +kernel
theorem d8_code_113 : decode b8_code 113 = .ok (.getfield 11, 3) := by decide +kernel
theorem d8_code_116 : decode b8_code 116 = .ok (.iload_n 1, 1) := by decide +kernel
theorem d8_code_117 : decode b8_code 117 = .ok (.aaload, 1) := by decide +kernel
theorem d8_code_118 : decode b8_code 118 = .ok (.invokevirtual 70, 3) := by decide +kernel
theorem d8_code_121 : decode b8_code 121 = .ok (.ireturn, 1) := by decide +kernel
theorem d8_table_0 : decode b8_table 0 = .ok (.iload_n 1, 1) := by decide +kernel
theorem d8_table_1 : decode b8_table 1 = .ok (.ifCond .lt 21, 3) := by decide +kernel
theorem d8_table_4 : decode b8_table 4 = .ok (.iload_n 1, 1) := by decide +kernel
theorem d8_table_5 : decode b8_table 5 = .ok (.bipush 8, 2) := by decide +kernel
theorem d8_table_7 : decode b8_table 7 = .ok (.if_icmp .ge 15, 3) := by decide +kernel
theorem d8_table_10 : decode b8_table 10 = .ok (.iload_n 2, 1) := by decide +kernel
theorem d8_table_11 : decode b8_table 11 = .ok (.iconst (-1), 1) := by decide +kernel
theorem d8_table_12 : decode b8_table 12 = .ok (.if_icmp .eq 18, 3) := by decide +kernel
theorem d8_table_15 : decode b8_table 15 = .ok (.iload_n 2, 1) := by decide +kernel
theorem d8_table_16 : decode b8_table 16 = .ok (.invokestatic 41, 3) := by decide +kernel
theorem d8_table_19 : decode b8_table 19 = .ok (.ifCond .ne 11, 3) := by decide +kernel
theorem d8_table_22 : decode b8_table 22 = .ok (.new 48, 3) := by decide +kernel
theorem d8_table_25 : decode b8_table 25 = .ok (.dup, 1) := by decide +kernel
theorem d8_table_26 : decode b8_table 26 = .ok (.invokespecial 50, 3) := by decide +kernel
theorem d8_table_29 : decode b8_table 29 = .ok (.athrow, 1) := by decide +kernel
theorem d8_table_30 : decode b8_table 30 = .ok (.aload_n 0, 1) := by decide +kernel
theorem d8_table_31 : decode b8_table 31 = .ok (.getfield 16, 3) := by decide +kernel
theorem d8_table_34 : decode b8_table 34 = .ok (.iload_n 1, 1) := by decide +kernel
theorem d8_table_35 : decode b8_table 35 = .ok (.iaload, 1) := by decide +kernel
theorem d8_table_36 : decode b8_table 36 = .ok (.istore_n 3, 1) := by decide +kernel
theorem d8_table_37 : decode b8_table 37 = .ok (.aload_n 0, 1) := by decide +kernel
theorem d8_table_38 : decode b8_table 38 = .ok (.getfield 16, 3) := by decide +kernel
theorem d8_table_41 : decode b8_table 41 = .ok (.iload_n 1, 1) := by decide +kernel
theorem d8_table_42 : decode b8_table 42 = .ok (.iload_n 2, 1) := by decide +kernel
theorem d8_table_43 : decode b8_table 43 = .ok (.iastore, 1) := by decide +kernel
theorem d8_table_44 : decode b8_table 44 = .ok (.iload_n 3, 1) := by decide +kernel
theorem d8_table_45 : decode b8_table 45 = .ok (.ireturn, 1) := by decide +kernel
theorem d8_check_0 : decode b8_check 0 = .ok (.aload_n 0, 1) := by decide +kernel
theorem d8_check_1 : decode b8_check 1 = .ok (.getfield 51, 3) := by decide +kernel
theorem d8_check_4 : decode b8_check 4 = .ok (.iconst 1, 1) := by decide +kernel
theorem d8_check_5 : decode b8_check 5 = .ok (.if_icmp .ne 11, 3) := by decide +kernel
theorem d8_check_8 : decode b8_check 8 = .ok (.new 55, 3) := by decide +kernel
theorem d8_check_11 : decode b8_check 11 = .ok (.dup, 1) := by decide +kernel
theorem d8_check_12 : decode b8_check 12 = .ok (.invokespecial 57, 3) := by decide +kernel
theorem d8_check_15 : decode b8_check 15 = .ok (.athrow, 1) := by decide +kernel
theorem d8_check_16 : decode b8_check 16 = .ok (.iconst 0, 1) := by decide +kernel
theorem d8_check_17 : decode b8_check 17 = .ok (.istore_n 1, 1) := by decide +kernel
theorem d8_check_18 : decode b8_check 18 = .ok (.iconst 0, 1) := by decide +kernel
theorem d8_check_19 : decode b8_check 19 = .ok (.istore_n 2, 1) := by decide +kernel
theorem d8_check_20 : decode b8_check 20 = .ok (.iload_n 2, 1) := by decide +kernel
theorem d8_check_21 : decode b8_check 21 = .ok (.bipush 6, 2) := by decide +kernel
theorem d8_check_23 : decode b8_check 23 = .ok (.if_icmp .ge 49, 3) := by decide +kernel
theorem d8_check_26 : decode b8_check 26 = .ok (.aload_n 0, 1) := by decide +kernel
theorem d8_check_27 : decode b8_check 27 = .ok (.getfield 11, 3) := by decide +kernel
theorem d8_check_30 : decode b8_check 30 = .ok (.iload_n 2, 1) := by decide +kernel
theorem d8_check_31 : decode b8_check 31 = .ok (.aaload, 1) := by decide +kernel
theorem d8_check_32 : decode b8_check 32 = .ok (.invokevirtual 70, 3) := by decide +kernel
theorem d8_check_35 : decode b8_check 35 = .ok (.ifCond .le 31, 3) := by decide +kernel
theorem d8_check_38 : decode b8_check 38 = .ok (.iinc 1 1, 3) := by decide +kernel
theorem d8_check_41 : decode b8_check 41 = .ok (.aload_n 0, 1) := by decide +kernel
theorem d8_check_42 : decode b8_check 42 = .ok (.getfield 28, 3) := by decide +kernel
theorem d8_check_45 : decode b8_check 45 = .ok (.aload_n 0, 1) := by decide +kernel
theorem d8_check_46 : decode b8_check 46 = .ok (.getfield 11, 3) := by decide +kernel
theorem d8_check_49 : decode b8_check 49 = .ok (.iload_n 2, 1) := by decide +kernel
theorem d8_check_50 : decode b8_check 50 = .ok (.aaload, 1) := by decide +kernel
theorem d8_check_51 : decode b8_check 51 = .ok (.invokevirtual 80, 3) := by decide +kernel
theorem d8_check_54 : decode b8_check 54 = .ok (.iconst (-1), 1) := by decide +kernel
theorem d8_check_55 : decode b8_check 55 = .ok (.if_icmp .eq 11, 3) := by decide +kernel
theorem d8_check_58 : decode b8_check 58 = .ok (.new 84, 3) := by decide +kernel
theorem d8_check_61 : decode b8_check 61 = .ok (.dup, 1) := by decide +kernel
theorem d8_check_62 : decode b8_check 62 = .ok (.invokespecial 86, 3) := by decide +kernel
theorem d8_check_65 : decode b8_check 65 = .ok (.athrow, 1) := by decide +kernel
theorem d8_check_66 : decode b8_check 66 = .ok (.iinc 2 1, 3) := by decide +kernel
theorem d8_check_69 : decode b8_check 69 = .ok (.goto (-49), 3) := by decide +kernel
theorem d8_check_72 : decode b8_check 72 = .ok (.aload_n 0, 1) := by decide +kernel
theorem d8_check_73 : decode b8_check 73 = .ok (.iconst 1, 1) := by decide +kernel
theorem d8_check_74 : decode b8_check 74 = .ok (.putfield 58, 3) := by decide +kernel
theorem d8_check_77 : decode b8_check 77 = .ok (.iload_n 1, 1) := by decide +kernel
theorem d8_check_78 : decode b8_check 78 = .ok (.ireturn, 1) := by decide +kernel
theorem d8_fault_0 : decode b8_fault 0 = .ok (.iload_n 1, 1) := by decide +kernel
theorem d8_fault_1 : decode b8_fault 1 = .ok (.invokestatic 41, 3) := by decide +kernel
theorem d8_fault_4 : decode b8_fault 4 = .ok (.ifCond .ne 11, 3) := by decide +kernel
theorem d8_fault_7 : decode b8_fault 7 = .ok (.new 48, 3) := by decide +kernel
theorem d8_fault_10 : decode b8_fault 10 = .ok (.dup, 1) := by decide +kernel
theorem d8_fault_11 : decode b8_fault 11 = .ok (.invokespecial 50, 3) := by decide +kernel
theorem d8_fault_14 : decode b8_fault 14 = .ok (.athrow, 1) := by decide +kernel
theorem d8_fault_15 : decode b8_fault 15 = .ok (.aload_n 0, 1) := by decide +kernel
theorem d8_fault_16 : decode b8_fault 16 = .ok (.getfield 28, 3) := by decide +kernel
theorem d8_fault_19 : decode b8_fault 19 = .ok (.aload_n 0, 1) := by decide +kernel
theorem d8_fault_20 : decode b8_fault 20 = .ok (.getfield 11, 3) := by decide +kernel
theorem d8_fault_23 : decode b8_fault 23 = .ok (.iload_n 1, 1) := by decide +kernel
theorem d8_fault_24 : decode b8_fault 24 = .ok (.aaload, 1) := by decide +kernel
theorem d8_fault_25 : decode b8_fault 25 = .ok (.invokevirtual 80, 3) := by decide +kernel
theorem d8_fault_28 : decode b8_fault 28 = .ok (.ireturn, 1) := by decide +kernel
theorem d8_argue_0 : decode b8_argue 0 = .ok (.aload_n 0, 1) := by decide +kernel
theorem d8_argue_1 : decode b8_argue 1 = .ok (.getfield 87, 3) := by decide +kernel
theorem d8_argue_4 : decode b8_argue 4 = .ok (.iconst 3, 1) := by decide +kernel
theorem d8_argue_5 : decode b8_argue 5 = .ok (.if_icmp .lt 11, 3) := by decide +kernel
theorem d8_argue_8 : decode b8_argue 8 = .ok (.new 73, 3) := by decide +kernel
theorem d8_argue_11 : decode b8_argue 11 = .ok (.dup, 1) := by decide +kernel
theorem d8_argue_12 : decode b8_argue 12 = .ok (.invokespecial 75, 3) := by decide +kernel
theorem d8_argue_15 : decode b8_argue 15 = .ok (.athrow, 1) := by decide +kernel
theorem d8_argue_16 : decode b8_argue 16 = .ok (.aload_n 0, 1) := by decide +kernel
theorem d8_argue_17 : decode b8_argue 17 = .ok (.getfield 20, 3) := by decide +kernel
theorem d8_argue_20 : decode b8_argue 20 = .ok (.aload_n 0, 1) := by decide +kernel
theorem d8_argue_21 : decode b8_argue 21 = .ok (.getfield 87, 3) := by decide +kernel
theorem d8_argue_24 : decode b8_argue 24 = .ok (.iload_n 1, 1) := by decide +kernel
theorem d8_argue_25 : decode b8_argue 25 = .ok (.iastore, 1) := by decide +kernel
theorem d8_argue_26 : decode b8_argue 26 = .ok (.aload_n 0, 1) := by decide +kernel
theorem d8_argue_27 : decode b8_argue 27 = .ok (.dup, 1) := by decide +kernel
theorem d8_argue_28 : decode b8_argue 28 = .ok (.getfield 87, 3) := by decide +kernel
theorem d8_argue_31 : decode b8_argue 31 = .ok (.iconst 1, 1) := by decide +kernel
theorem d8_argue_32 : decode b8_argue 32 = .ok (.iadd, 1) := by decide +kernel
theorem d8_argue_33 : decode b8_argue 33 = .ok (.putfield 87, 3) := by decide +kernel
theorem d8_argue_36 : decode b8_argue 36 = .ok (.aload_n 0, 1) := by decide +kernel
theorem d8_argue_37 : decode b8_argue 37 = .ok (.getfield 87, 3) := by decide +kernel
theorem d8_argue_40 : decode b8_argue 40 = .ok (.ireturn, 1) := by decide +kernel
theorem d8_start_0 : decode b8_start 0 = .ok (.iload_n 1, 1) := by decide +kernel
theorem d8_start_1 : decode b8_start 1 = .ok (.invokestatic 41, 3) := by decide +kernel
theorem d8_start_4 : decode b8_start 4 = .ok (.ifCond .ne 11, 3) := by decide +kernel
theorem d8_start_7 : decode b8_start 7 = .ok (.new 48, 3) := by decide +kernel
theorem d8_start_10 : decode b8_start 10 = .ok (.dup, 1) := by decide +kernel
theorem d8_start_11 : decode b8_start 11 = .ok (.invokespecial 50, 3) := by decide +kernel
theorem d8_start_14 : decode b8_start 14 = .ok (.athrow, 1) := by decide +kernel
theorem d8_start_15 : decode b8_start 15 = .ok (.aload_n 0, 1) := by decide +kernel
theorem d8_start_16 : decode b8_start 16 = .ok (.getfield 51, 3) := by decide +kernel
theorem d8_start_19 : decode b8_start 19 = .ok (.iconst 1, 1) := by decide +kernel
theorem d8_start_20 : decode b8_start 20 = .ok (.if_icmp .eq 22, 3) := by decide +kernel
theorem d8_start_23 : decode b8_start 23 = .ok (.aload_n 0, 1) := by decide +kernel
theorem d8_start_24 : decode b8_start 24 = .ok (.getfield 58, 3) := by decide +kernel
theorem d8_start_27 : decode b8_start 27 = .ok (.ifCond .eq 15, 3) := by decide +kernel
theorem d8_start_30 : decode b8_start 30 = .ok (.aload_n 0, 1) := by decide +kernel
theorem d8_start_31 : decode b8_start 31 = .ok (.getfield 11, 3) := by decide +kernel
theorem d8_start_34 : decode b8_start 34 = .ok (.iload_n 1, 1) := by decide +kernel
theorem d8_start_35 : decode b8_start 35 = .ok (.aaload, 1) := by decide +kernel
theorem d8_start_36 : decode b8_start 36 = .ok (.invokevirtual 70, 3) := by decide +kernel
theorem d8_start_39 : decode b8_start 39 = .ok (.ifCond .ne 11, 3) := by decide +kernel
theorem d8_start_42 : decode b8_start 42 = .ok (.new 55, 3) := by decide +kernel
theorem d8_start_45 : decode b8_start 45 = .ok (.dup, 1) := by decide +kernel
theorem d8_start_46 : decode b8_start 46 = .ok (.invokespecial 57, 3) := by decide +kernel
theorem d8_start_49 : decode b8_start 49 = .ok (.athrow, 1) := by decide +kernel
theorem d8_start_50 : decode b8_start 50 = .ok (.aload_n 0, 1) := by decide +kernel
theorem d8_start_51 : decode b8_start 51 = .ok (.getfield 11, 3) := by decide +kernel
theorem d8_start_54 : decode b8_start 54 = .ok (.iload_n 1, 1) := by decide +kernel
theorem d8_start_55 : decode b8_start 55 = .ok (.aaload, 1) := by decide +kernel
theorem d8_start_56 : decode b8_start 56 = .ok (.invokevirtual 90, 3) := by decide +kernel
theorem d8_start_59 : decode b8_start 59 = .ok (.aload_n 0, 1) := by decide +kernel
theorem d8_start_60 : decode b8_start 60 = .ok (.getfield 87, 3) := by decide +kernel
theorem d8_start_63 : decode b8_start 63 = .ok (.if_icmp .eq 11, 3) := by decide +kernel
theorem d8_start_66 : decode b8_start 66 = .ok (.new 84, 3) := by decide +kernel
theorem d8_start_69 : decode b8_start 69 = .ok (.dup, 1) := by decide +kernel
theorem d8_start_70 : decode b8_start 70 = .ok (.invokespecial 86, 3) := by decide +kernel
theorem d8_start_73 : decode b8_start 73 = .ok (.athrow, 1) := by decide +kernel
theorem d8_start_74 : decode b8_start 74 = .ok (.aload_n 0, 1) := by decide +kernel
theorem d8_start_75 : decode b8_start 75 = .ok (.getfield 37, 3) := by decide +kernel
theorem d8_start_78 : decode b8_start 78 = .ok (.aload_n 0, 1) := by decide +kernel
theorem d8_start_79 : decode b8_start 79 = .ok (.getfield 11, 3) := by decide +kernel
theorem d8_start_82 : decode b8_start 82 = .ok (.iload_n 1, 1) := by decide +kernel
theorem d8_start_83 : decode b8_start 83 = .ok (.aaload, 1) := by decide +kernel
theorem d8_start_84 : decode b8_start 84 = .ok (.aload_n 0, 1) := by decide +kernel
theorem d8_start_85 : decode b8_start 85 = .ok (.getfield 20, 3) := by decide +kernel
theorem d8_start_88 : decode b8_start 88 = .ok (.invokevirtual 93, 3) := by decide +kernel
theorem d8_start_91 : decode b8_start 91 = .ok (.aload_n 0, 1) := by decide +kernel
theorem d8_start_92 : decode b8_start 92 = .ok (.iconst 1, 1) := by decide +kernel
theorem d8_start_93 : decode b8_start 93 = .ok (.putfield 51, 3) := by decide +kernel
theorem d8_start_96 : decode b8_start 96 = .ok (.aload_n 0, 1) := by decide +kernel
theorem d8_start_97 : decode b8_start 97 = .ok (.iconst 0, 1) := by decide +kernel
theorem d8_start_98 : decode b8_start 98 = .ok (.putfield 97, 3) := by decide +kernel
theorem d8_start_101 : decode b8_start 101 = .ok (.aload_n 0, 1) := by decide +kernel
theorem d8_start_102 : decode b8_start 102 = .ok (.getfield 87, 3) := by decide +kernel
theorem d8_start_105 : decode b8_start 105 = .ok (.istore_n 2, 1) := by decide +kernel
theorem d8_start_106 : decode b8_start 106 = .ok (.aload_n 0, 1) := by decide +kernel
theorem d8_start_107 : decode b8_start 107 = .ok (.iconst 0, 1) := by decide +kernel
theorem d8_start_108 : decode b8_start 108 = .ok (.putfield 87, 3) := by decide +kernel
theorem d8_start_111 : decode b8_start 111 = .ok (.iload_n 2, 1) := by decide +kernel
theorem d8_start_112 : decode b8_start 112 = .ok (.ireturn, 1) := by decide +kernel
theorem d8_run_0 : decode b8_run 0 = .ok (.iload_n 1, 1) := by decide +kernel
theorem d8_run_1 : decode b8_run 1 = .ok (.iconst 1, 1) := by decide +kernel
theorem d8_run_2 : decode b8_run 2 = .ok (.if_icmp .lt 9, 3) := by decide +kernel
theorem d8_run_5 : decode b8_run 5 = .ok (.iload_n 1, 1) := by decide +kernel
theorem d8_run_6 : decode b8_run 6 = .ok (.bipush 20, 2) := by decide +kernel
theorem d8_run_8 : decode b8_run 8 = .ok (.if_icmp .le 11, 3) := by decide +kernel
theorem d8_run_11 : decode b8_run 11 = .ok (.new 48, 3) := by decide +kernel
theorem d8_run_14 : decode b8_run 14 = .ok (.dup, 1) := by decide +kernel
theorem d8_run_15 : decode b8_run 15 = .ok (.invokespecial 50, 3) := by decide +kernel
theorem d8_run_18 : decode b8_run 18 = .ok (.athrow, 1) := by decide +kernel
theorem d8_run_19 : decode b8_run 19 = .ok (.aload_n 0, 1) := by decide +kernel
theorem d8_run_20 : decode b8_run 20 = .ok (.getfield 51, 3) := by decide +kernel
theorem d8_run_23 : decode b8_run 23 = .ok (.iconst 1, 1) := by decide +kernel
theorem d8_run_24 : decode b8_run 24 = .ok (.if_icmp .eq 11, 3) := by decide +kernel
theorem d8_run_27 : decode b8_run 27 = .ok (.new 55, 3) := by decide +kernel
theorem d8_run_30 : decode b8_run 30 = .ok (.dup, 1) := by decide +kernel
theorem d8_run_31 : decode b8_run 31 = .ok (.invokespecial 57, 3) := by decide +kernel
theorem d8_run_34 : decode b8_run 34 = .ok (.athrow, 1) := by decide +kernel
theorem d8_run_35 : decode b8_run 35 = .ok (.iconst 0, 1) := by decide +kernel
theorem d8_run_36 : decode b8_run 36 = .ok (.istore_n 2, 1) := by decide +kernel
theorem d8_run_37 : decode b8_run 37 = .ok (.iconst 0, 1) := by decide +kernel
theorem d8_run_38 : decode b8_run 38 = .ok (.istore_n 3, 1) := by decide +kernel
theorem d8_run_39 : decode b8_run 39 = .ok (.iconst 0, 1) := by decide +kernel
theorem d8_run_40 : decode b8_run 40 = .ok (.istore 4, 2) := by decide +kernel
theorem d8_run_42 : decode b8_run 42 = .ok (.iload 4, 2) := by decide +kernel
theorem d8_run_44 : decode b8_run 44 = .ok (.iload_n 1, 1) := by decide +kernel
theorem d8_run_45 : decode b8_run 45 = .ok (.if_icmp .ge 37, 3) := by decide +kernel
theorem d8_run_48 : decode b8_run 48 = .ok (.aload_n 0, 1) := by decide +kernel
theorem d8_run_49 : decode b8_run 49 = .ok (.getfield 51, 3) := by decide +kernel
theorem d8_run_52 : decode b8_run 52 = .ok (.iconst 1, 1) := by decide +kernel
theorem d8_run_53 : decode b8_run 53 = .ok (.if_icmp .ne 29, 3) := by decide +kernel
theorem d8_run_56 : decode b8_run 56 = .ok (.aload_n 0, 1) := by decide +kernel
theorem d8_run_57 : decode b8_run 57 = .ok (.getfield 37, 3) := by decide +kernel
theorem d8_run_60 : decode b8_run 60 = .ok (.invokevirtual 100, 3) := by decide +kernel
theorem d8_run_63 : decode b8_run 63 = .ok (.istore_n 3, 1) := by decide +kernel
theorem d8_run_64 : decode b8_run 64 = .ok (.iinc 2 1, 3) := by decide +kernel
theorem d8_run_67 : decode b8_run 67 = .ok (.aload_n 0, 1) := by decide +kernel
theorem d8_run_68 : decode b8_run 68 = .ok (.aload_n 0, 1) := by decide +kernel
theorem d8_run_69 : decode b8_run 69 = .ok (.iload_n 3, 1) := by decide +kernel
theorem d8_run_70 : decode b8_run 70 = .ok (.invokevirtual 103, 3) := by decide +kernel
theorem d8_run_73 : decode b8_run 73 = .ok (.putfield 51, 3) := by decide +kernel
theorem d8_run_76 : decode b8_run 76 = .ok (.iinc 4 1, 3) := by decide +kernel
theorem d8_run_79 : decode b8_run 79 = .ok (.goto (-37), 3) := by decide +kernel
theorem d8_run_82 : decode b8_run 82 = .ok (.aload_n 0, 1) := by decide +kernel
theorem d8_run_83 : decode b8_run 83 = .ok (.dup, 1) := by decide +kernel
theorem d8_run_84 : decode b8_run 84 = .ok (.getfield 97, 3) := by decide +kernel
theorem d8_run_87 : decode b8_run 87 = .ok (.iload_n 2, 1) := by decide +kernel
theorem d8_run_88 : decode b8_run 88 = .ok (.iadd, 1) := by decide +kernel
theorem d8_run_89 : decode b8_run 89 = .ok (.putfield 97, 3) := by decide +kernel
theorem d8_run_92 : decode b8_run 92 = .ok (.iload_n 3, 1) := by decide +kernel
theorem d8_run_93 : decode b8_run 93 = .ok (.ifCond .eq 12, 3) := by decide +kernel
theorem d8_run_96 : decode b8_run 96 = .ok (.aload_n 0, 1) := by decide +kernel
theorem d8_run_97 : decode b8_run 97 = .ok (.iload_n 3, 1) := by decide +kernel
theorem d8_run_98 : decode b8_run 98 = .ok (.putfield 107, 3) := by decide +kernel
theorem d8_run_101 : decode b8_run 101 = .ok (.iload_n 3, 1) := by decide +kernel
theorem d8_run_102 : decode b8_run 102 = .ok (.invokestatic 110, 3) := by decide +kernel
theorem d8_run_105 : decode b8_run 105 = .ok (.iload_n 2, 1) := by decide +kernel
theorem d8_run_106 : decode b8_run 106 = .ok (.ireturn, 1) := by decide +kernel
theorem d8_stop_0 : decode b8_stop 0 = .ok (.aload_n 0, 1) := by decide +kernel
theorem d8_stop_1 : decode b8_stop 1 = .ok (.getfield 51, 3) := by decide +kernel
theorem d8_stop_4 : decode b8_stop 4 = .ok (.iconst 1, 1) := by decide +kernel
theorem d8_stop_5 : decode b8_stop 5 = .ok (.if_icmp .eq 11, 3) := by decide +kernel
theorem d8_stop_8 : decode b8_stop 8 = .ok (.new 55, 3) := by decide +kernel
theorem d8_stop_11 : decode b8_stop 11 = .ok (.dup, 1) := by decide +kernel
theorem d8_stop_12 : decode b8_stop 12 = .ok (.invokespecial 57, 3) := by decide +kernel
theorem d8_stop_15 : decode b8_stop 15 = .ok (.athrow, 1) := by decide +kernel
theorem d8_stop_16 : decode b8_stop 16 = .ok (.aload_n 0, 1) := by decide +kernel
theorem d8_stop_17 : decode b8_stop 17 = .ok (.iconst 0, 1) := by decide +kernel
theorem d8_stop_18 : decode b8_stop 18 = .ok (.putfield 51, 3) := by decide +kernel
theorem d8_stop_21 : decode b8_stop 21 = .ok (.aload_n 0, 1) := by decide +kernel
theorem d8_stop_22 : decode b8_stop 22 = .ok (.getfield 97, 3) := by decide +kernel
theorem d8_stop_25 : decode b8_stop 25 = .ok (.ireturn, 1) := by decide +kernel
theorem d8_result_0 : decode b8_result 0 = .ok (.aload_n 0, 1) := by decide +kernel
theorem d8_result_1 : decode b8_result 1 = .ok (.getfield 51, 3) := by decide +kernel
theorem d8_result_4 : decode b8_result 4 = .ok (.iconst 2, 1) := by decide +kernel
theorem d8_result_5 : decode b8_result 5 = .ok (.if_icmp .eq 11, 3) := by decide +kernel
theorem d8_result_8 : decode b8_result 8 = .ok (.new 55, 3) := by decide +kernel
theorem d8_result_11 : decode b8_result 11 = .ok (.dup, 1) := by decide +kernel
theorem d8_result_12 : decode b8_result 12 = .ok (.invokespecial 57, 3) := by decide +kernel
theorem d8_result_15 : decode b8_result 15 = .ok (.athrow, 1) := by decide +kernel
theorem d8_result_16 : decode b8_result 16 = .ok (.aload_n 0, 1) := by decide +kernel
theorem d8_result_17 : decode b8_result 17 = .ok (.getfield 37, 3) := by decide +kernel
theorem d8_result_20 : decode b8_result 20 = .ok (.invokevirtual 113, 3) := by decide +kernel
theorem d8_result_23 : decode b8_result 23 = .ok (.iconst 1, 1) := by decide +kernel
theorem d8_result_24 : decode b8_result 24 = .ok (.if_icmp .eq 22, 3) := by decide +kernel
theorem d8_result_27 : decode b8_result 27 = .ok (.aload_n 0, 1) := by decide +kernel
theorem d8_result_28 : decode b8_result 28 = .ok (.getfield 37, 3) := by decide +kernel
theorem d8_result_31 : decode b8_result 31 = .ok (.invokevirtual 113, 3) := by decide +kernel
theorem d8_result_34 : decode b8_result 34 = .ok (.iconst 2, 1) := by decide +kernel
theorem d8_result_35 : decode b8_result 35 = .ok (.if_icmp .eq 11, 3) := by decide +kernel
theorem d8_result_38 : decode b8_result 38 = .ok (.new 116, 3) := by decide +kernel
theorem d8_result_41 : decode b8_result 41 = .ok (.dup, 1) := by decide +kernel
theorem d8_result_42 : decode b8_result 42 = .ok (.invokespecial 118, 3) := by decide +kernel
theorem d8_result_45 : decode b8_result 45 = .ok (.athrow, 1) := by decide +kernel
theorem d8_result_46 : decode b8_result 46 = .ok (.aload_n 0, 1) := by decide +kernel
theorem d8_result_47 : decode b8_result 47 = .ok (.getfield 37, 3) := by decide +kernel
theorem d8_result_50 : decode b8_result 50 = .ok (.invokevirtual 119, 3) := by decide +kernel
theorem d8_result_53 : decode b8_result 53 = .ok (.lreturn, 1) := by decide +kernel
theorem d8_real_0 : decode b8_real 0 = .ok (.aload_n 0, 1) := by decide +kernel
theorem d8_real_1 : decode b8_real 1 = .ok (.getfield 51, 3) := by decide +kernel
theorem d8_real_4 : decode b8_real 4 = .ok (.iconst 2, 1) := by decide +kernel
theorem d8_real_5 : decode b8_real 5 = .ok (.if_icmp .eq 11, 3) := by decide +kernel
theorem d8_real_8 : decode b8_real 8 = .ok (.new 55, 3) := by decide +kernel
theorem d8_real_11 : decode b8_real 11 = .ok (.dup, 1) := by decide +kernel
theorem d8_real_12 : decode b8_real 12 = .ok (.invokespecial 57, 3) := by decide +kernel
theorem d8_real_15 : decode b8_real 15 = .ok (.athrow, 1) := by decide +kernel
theorem d8_real_16 : decode b8_real 16 = .ok (.aload_n 0, 1) := by decide +kernel
theorem d8_real_17 : decode b8_real 17 = .ok (.getfield 37, 3) := by decide +kernel
theorem d8_real_20 : decode b8_real 20 = .ok (.invokevirtual 113, 3) := by decide +kernel
theorem d8_real_23 : decode b8_real 23 = .ok (.iconst 3, 1) := by decide +kernel
theorem d8_real_24 : decode b8_real 24 = .ok (.if_icmp .eq 11, 3) := by decide +kernel
theorem d8_real_27 : decode b8_real 27 = .ok (.new 116, 3) := by decide +kernel
theorem d8_real_30 : decode b8_real 30 = .ok (.dup, 1) := by decide +kernel
theorem d8_real_31 : decode b8_real 31 = .ok (.invokespecial 118, 3) := by decide +kernel
theorem d8_real_34 : decode b8_real 34 = .ok (.athrow, 1) := by decide +kernel
theorem d8_real_35 : decode b8_real 35 = .ok (.aload_n 0, 1) := by decide +kernel
theorem d8_real_36 : decode b8_real 36 = .ok (.getfield 37, 3) := by decide +kernel
theorem d8_real_39 : decode b8_real 39 = .ok (.invokevirtual 123, 3) := by decide +kernel
theorem d8_real_42 : decode b8_real 42 = .ok (.dreturn, 1) := by decide +kernel
theorem d8_global_0 : decode b8_global 0 = .ok (.iload_n 1, 1) := by decide +kernel
theorem d8_global_1 : decode b8_global 1 = .ok (.ifCond .lt 8, 3) := by decide +kernel
theorem d8_global_4 : decode b8_global 4 = .ok (.iload_n 1, 1) := by decide +kernel
theorem d8_global_5 : decode b8_global 5 = .ok (.iconst 1, 1) := by decide +kernel
theorem d8_global_6 : decode b8_global 6 = .ok (.if_icmp .le 11, 3) := by decide +kernel
theorem d8_global_9 : decode b8_global 9 = .ok (.new 48, 3) := by decide +kernel
theorem d8_global_12 : decode b8_global 12 = .ok (.dup, 1) := by decide +kernel
theorem d8_global_13 : decode b8_global 13 = .ok (.invokespecial 50, 3) := by decide +kernel
theorem d8_global_16 : decode b8_global 16 = .ok (.athrow, 1) := by decide +kernel
theorem d8_global_17 : decode b8_global 17 = .ok (.aload_n 0, 1) := by decide +kernel
theorem d8_global_18 : decode b8_global 18 = .ok (.getfield 37, 3) := by decide +kernel
theorem d8_global_21 : decode b8_global 21 = .ok (.getfield 127, 3) := by decide +kernel
theorem d8_global_24 : decode b8_global 24 = .ok (.iload_n 1, 1) := by decide +kernel
theorem d8_global_25 : decode b8_global 25 = .ok (.invokevirtual 131, 3) := by decide +kernel
theorem d8_global_28 : decode b8_global 28 = .ok (.lreturn, 1) := by decide +kernel
theorem d8_realGlobal_0 : decode b8_realGlobal 0 = .ok (.aload_n 0, 1) := by decide +kernel
theorem d8_realGlobal_1 : decode b8_realGlobal 1 = .ok (.getfield 37, 3) := by decide +kernel
theorem d8_realGlobal_4 : decode b8_realGlobal 4 = .ok (.getfield 127, 3) := by decide +kernel
theorem d8_realGlobal_7 : decode b8_realGlobal 7 = .ok (.iconst 2, 1) := by decide +kernel
theorem d8_realGlobal_8 : decode b8_realGlobal 8 = .ok (.invokevirtual 137, 3) := by decide +kernel
theorem d8_realGlobal_11 : decode b8_realGlobal 11 = .ok (.dreturn, 1) := by decide +kernel
theorem d8_memory_0 : decode b8_memory 0 = .ok (.iload_n 1, 1) := by decide +kernel
theorem d8_memory_1 : decode b8_memory 1 = .ok (.ifCond .lt 9, 3) := by decide +kernel
theorem d8_memory_4 : decode b8_memory 4 = .ok (.iload_n 1, 1) := by decide +kernel
theorem d8_memory_5 : decode b8_memory 5 = .ok (.bipush 64, 2) := by decide +kernel
theorem d8_memory_7 : decode b8_memory 7 = .ok (.if_icmp .lt 11, 3) := by decide +kernel
theorem d8_memory_10 : decode b8_memory 10 = .ok (.new 48, 3) := by decide +kernel
theorem d8_memory_13 : decode b8_memory 13 = .ok (.dup, 1) := by decide +kernel
theorem d8_memory_14 : decode b8_memory 14 = .ok (.invokespecial 50, 3) := by decide +kernel
theorem d8_memory_17 : decode b8_memory 17 = .ok (.athrow, 1) := by decide +kernel
theorem d8_memory_18 : decode b8_memory 18 = .ok (.aload_n 0, 1) := by decide +kernel
theorem d8_memory_19 : decode b8_memory 19 = .ok (.getfield 37, 3) := by decide +kernel
theorem d8_memory_22 : decode b8_memory 22 = .ok (.getfield 143, 3) := by decide +kernel
theorem d8_memory_25 : decode b8_memory 25 = .ok (.iload_n 1, 1) := by decide +kernel
theorem d8_memory_26 : decode b8_memory 26 = .ok (.invokevirtual 147, 3) := by decide +kernel
theorem d8_memory_29 : decode b8_memory 29 = .ok (.ireturn, 1) := by decide +kernel
theorem d8_wipe_0 : decode b8_wipe 0 = .ok (.aload_n 0, 1) := by decide +kernel
theorem d8_wipe_1 : decode b8_wipe 1 = .ok (.getfield 51, 3) := by decide +kernel
theorem d8_wipe_4 : decode b8_wipe 4 = .ok (.iconst 1, 1) := by decide +kernel
theorem d8_wipe_5 : decode b8_wipe 5 = .ok (.if_icmp .ne 11, 3) := by decide +kernel
theorem d8_wipe_8 : decode b8_wipe 8 = .ok (.new 55, 3) := by decide +kernel
theorem d8_wipe_11 : decode b8_wipe 11 = .ok (.dup, 1) := by decide +kernel
theorem d8_wipe_12 : decode b8_wipe 12 = .ok (.invokespecial 57, 3) := by decide +kernel
theorem d8_wipe_15 : decode b8_wipe 15 = .ok (.athrow, 1) := by decide +kernel
theorem d8_wipe_16 : decode b8_wipe 16 = .ok (.aload_n 0, 1) := by decide +kernel
theorem d8_wipe_17 : decode b8_wipe 17 = .ok (.getfield 37, 3) := by decide +kernel
theorem d8_wipe_20 : decode b8_wipe 20 = .ok (.getfield 127, 3) := by decide +kernel
theorem d8_wipe_23 : decode b8_wipe 23 = .ok (.invokevirtual 150, 3) := by decide +kernel
theorem d8_wipe_26 : decode b8_wipe 26 = .ok (.aload_n 0, 1) := by decide +kernel
theorem d8_wipe_27 : decode b8_wipe 27 = .ok (.getfield 37, 3) := by decide +kernel
theorem d8_wipe_30 : decode b8_wipe 30 = .ok (.getfield 143, 3) := by decide +kernel
theorem d8_wipe_33 : decode b8_wipe 33 = .ok (.invokevirtual 153, 3) := by decide +kernel
theorem d8_wipe_36 : decode b8_wipe 36 = .ok (.ireturn, 1) := by decide +kernel
theorem d8_count_0 : decode b8_count 0 = .ok (.iload_n 1, 1) := by decide +kernel
theorem d8_count_1 : decode b8_count 1 = .ok (.ifCond .lt 9, 3) := by decide +kernel
theorem d8_count_4 : decode b8_count 4 = .ok (.iload_n 1, 1) := by decide +kernel
theorem d8_count_5 : decode b8_count 5 = .ok (.bipush 11, 2) := by decide +kernel
theorem d8_count_7 : decode b8_count 7 = .ok (.if_icmp .le 11, 3) := by decide +kernel
theorem d8_count_10 : decode b8_count 10 = .ok (.new 48, 3) := by decide +kernel
theorem d8_count_13 : decode b8_count 13 = .ok (.dup, 1) := by decide +kernel
theorem d8_count_14 : decode b8_count 14 = .ok (.invokespecial 50, 3) := by decide +kernel
theorem d8_count_17 : decode b8_count 17 = .ok (.athrow, 1) := by decide +kernel
theorem d8_count_18 : decode b8_count 18 = .ok (.iload_n 1, 1) := by decide +kernel
theorem d8_count_19 : decode b8_count 19 = .ok (.tableswitch 90 0 5 #[37, 42, 47, 67, 72, 85], 37) := by decide +kernel
theorem d8_count_56 : decode b8_count 56 = .ok (.aload_n 0, 1) := by decide +kernel
theorem d8_count_57 : decode b8_count 57 = .ok (.getfield 51, 3) := by decide +kernel
theorem d8_count_60 : decode b8_count 60 = .ok (.ireturn, 1) := by decide +kernel
theorem d8_count_61 : decode b8_count 61 = .ok (.aload_n 0, 1) := by decide +kernel
theorem d8_count_62 : decode b8_count 62 = .ok (.getfield 97, 3) := by decide +kernel
theorem d8_count_65 : decode b8_count 65 = .ok (.ireturn, 1) := by decide +kernel
theorem d8_count_66 : decode b8_count 66 = .ok (.aload_n 0, 1) := by decide +kernel
theorem d8_count_67 : decode b8_count 67 = .ok (.getfield 51, 3) := by decide +kernel
theorem d8_count_70 : decode b8_count 70 = .ok (.iconst 1, 1) := by decide +kernel
theorem d8_count_71 : decode b8_count 71 = .ok (.if_icmp .ne 13, 3) := by decide +kernel
theorem d8_count_74 : decode b8_count 74 = .ok (.aload_n 0, 1) := by decide +kernel
theorem d8_count_75 : decode b8_count 75 = .ok (.getfield 37, 3) := by decide +kernel
theorem d8_count_78 : decode b8_count 78 = .ok (.invokevirtual 155, 3) := by decide +kernel
theorem d8_count_81 : decode b8_count 81 = .ok (.goto 4, 3) := by decide +kernel
theorem d8_count_84 : decode b8_count 84 = .ok (.iconst 0, 1) := by decide +kernel
theorem d8_count_85 : decode b8_count 85 = .ok (.ireturn, 1) := by decide +kernel
theorem d8_count_86 : decode b8_count 86 = .ok (.aload_n 0, 1) := by decide +kernel
theorem d8_count_87 : decode b8_count 87 = .ok (.getfield 107, 3) := by decide +kernel
theorem d8_count_90 : decode b8_count 90 = .ok (.ireturn, 1) := by decide +kernel
theorem d8_count_91 : decode b8_count 91 = .ok (.aload_n 0, 1) := by decide +kernel
theorem d8_count_92 : decode b8_count 92 = .ok (.getfield 58, 3) := by decide +kernel
theorem d8_count_95 : decode b8_count 95 = .ok (.ifCond .eq 7, 3) := by decide +kernel
theorem d8_count_98 : decode b8_count 98 = .ok (.iconst 1, 1) := by decide +kernel
theorem d8_count_99 : decode b8_count 99 = .ok (.goto 4, 3) := by decide +kernel
theorem d8_count_102 : decode b8_count 102 = .ok (.iconst 0, 1) := by decide +kernel
theorem d8_count_103 : decode b8_count 103 = .ok (.ireturn, 1) := by decide +kernel
theorem d8_count_104 : decode b8_count 104 = .ok (.aload_n 0, 1) := by decide +kernel
theorem d8_count_105 : decode b8_count 105 = .ok (.getfield 87, 3) := by decide +kernel
theorem d8_count_108 : decode b8_count 108 = .ok (.ireturn, 1) := by decide +kernel
theorem d8_count_109 : decode b8_count 109 = .ok (.aload_n 0, 1) := by decide +kernel
theorem d8_count_110 : decode b8_count 110 = .ok (.getfield 11, 3) := by decide +kernel
theorem d8_count_113 : decode b8_count 113 = .ok (.iload_n 1, 1) := by decide +kernel
theorem d8_count_114 : decode b8_count 114 = .ok (.bipush 6, 2) := by decide +kernel
theorem d8_count_116 : decode b8_count 116 = .ok (.isub, 1) := by decide +kernel
theorem d8_count_117 : decode b8_count 117 = .ok (.aaload, 1) := by decide +kernel
theorem d8_count_118 : decode b8_count 118 = .ok (.invokevirtual 70, 3) := by decide +kernel
theorem d8_count_121 : decode b8_count 121 = .ok (.ireturn, 1) := by decide +kernel
theorem d8_isFunction_0 : decode b8_isFunction 0 = .ok (.iload_n 0, 1) := by decide +kernel
theorem d8_isFunction_1 : decode b8_isFunction 1 = .ok (.ifCond .lt 13, 3) := by decide +kernel
theorem d8_isFunction_4 : decode b8_isFunction 4 = .ok (.iload_n 0, 1) := by decide +kernel
theorem d8_isFunction_5 : decode b8_isFunction 5 = .ok (.bipush 6, 2) := by decide +kernel
theorem d8_isFunction_7 : decode b8_isFunction 7 = .ok (.if_icmp .ge 7, 3) := by decide +kernel
theorem d8_isFunction_10 : decode b8_isFunction 10 = .ok (.iconst 1, 1) := by decide +kernel
theorem d8_isFunction_11 : decode b8_isFunction 11 = .ok (.goto 4, 3) := by decide +kernel
theorem d8_isFunction_14 : decode b8_isFunction 14 = .ok (.iconst 0, 1) := by decide +kernel
theorem d8_isFunction_15 : decode b8_isFunction 15 = .ok (.ireturn, 1) := by decide +kernel
theorem d8_isKindRow_0 : decode b8_isKindRow 0 = .ok (.iload_n 0, 1) := by decide +kernel
theorem d8_isKindRow_1 : decode b8_isKindRow 1 = .ok (.ifCond .lt 10, 3) := by decide +kernel
theorem d8_isKindRow_4 : decode b8_isKindRow 4 = .ok (.iload_n 0, 1) := by decide +kernel
theorem d8_isKindRow_5 : decode b8_isKindRow 5 = .ok (.sipush 333, 3) := by decide +kernel
theorem d8_isKindRow_8 : decode b8_isKindRow 8 = .ok (.if_icmp .le 5, 3) := by decide +kernel
theorem d8_isKindRow_11 : decode b8_isKindRow 11 = .ok (.iconst 0, 1) := by decide +kernel
theorem d8_isKindRow_12 : decode b8_isKindRow 12 = .ok (.ireturn, 1) := by decide +kernel
theorem d8_isKindRow_13 : decode b8_isKindRow 13 = .ok (.iload_n 0, 1) := by decide +kernel
theorem d8_isKindRow_14 : decode b8_isKindRow 14 = .ok (.istore_n 1, 1) := by decide +kernel
theorem d8_isKindRow_15 : decode b8_isKindRow 15 = .ok (.iconst 0, 1) := by decide +kernel
theorem d8_isKindRow_16 : decode b8_isKindRow 16 = .ok (.istore_n 2, 1) := by decide +kernel
theorem d8_isKindRow_17 : decode b8_isKindRow 17 = .ok (.iload_n 2, 1) := by decide +kernel
theorem d8_isKindRow_18 : decode b8_isKindRow 18 = .ok (.iconst 3, 1) := by decide +kernel
theorem d8_isKindRow_19 : decode b8_isKindRow 19 = .ok (.if_icmp .ge 36, 3) := by decide +kernel
theorem d8_isKindRow_22 : decode b8_isKindRow 22 = .ok (.iload_n 1, 1) := by decide +kernel
theorem d8_isKindRow_23 : decode b8_isKindRow 23 = .ok (.ifCond .le 32, 3) := by decide +kernel
theorem d8_isKindRow_26 : decode b8_isKindRow 26 = .ok (.iload_n 1, 1) := by decide +kernel
theorem d8_isKindRow_27 : decode b8_isKindRow 27 = .ok (.bipush 10, 2) := by decide +kernel
theorem d8_isKindRow_29 : decode b8_isKindRow 29 = .ok (.irem, 1) := by decide +kernel
theorem d8_isKindRow_30 : decode b8_isKindRow 30 = .ok (.iconst 1, 1) := by decide +kernel
theorem d8_isKindRow_31 : decode b8_isKindRow 31 = .ok (.if_icmp .lt 11, 3) := by decide +kernel
theorem d8_isKindRow_34 : decode b8_isKindRow 34 = .ok (.iload_n 1, 1) := by decide +kernel
theorem d8_isKindRow_35 : decode b8_isKindRow 35 = .ok (.bipush 10, 2) := by decide +kernel
theorem d8_isKindRow_37 : decode b8_isKindRow 37 = .ok (.irem, 1) := by decide +kernel
theorem d8_isKindRow_38 : decode b8_isKindRow 38 = .ok (.iconst 3, 1) := by decide +kernel
theorem d8_isKindRow_39 : decode b8_isKindRow 39 = .ok (.if_icmp .le 5, 3) := by decide +kernel
theorem d8_isKindRow_42 : decode b8_isKindRow 42 = .ok (.iconst 0, 1) := by decide +kernel
theorem d8_isKindRow_43 : decode b8_isKindRow 43 = .ok (.ireturn, 1) := by decide +kernel
theorem d8_isKindRow_44 : decode b8_isKindRow 44 = .ok (.iload_n 1, 1) := by decide +kernel
theorem d8_isKindRow_45 : decode b8_isKindRow 45 = .ok (.bipush 10, 2) := by decide +kernel
theorem d8_isKindRow_47 : decode b8_isKindRow 47 = .ok (.idiv, 1) := by decide +kernel
theorem d8_isKindRow_48 : decode b8_isKindRow 48 = .ok (.istore_n 1, 1) := by decide +kernel
theorem d8_isKindRow_49 : decode b8_isKindRow 49 = .ok (.iinc 2 1, 3) := by decide +kernel
theorem d8_isKindRow_52 : decode b8_isKindRow 52 = .ok (.goto (-35), 3) := by decide +kernel
theorem d8_isKindRow_55 : decode b8_isKindRow 55 = .ok (.iconst 1, 1) := by decide +kernel
theorem d8_isKindRow_56 : decode b8_isKindRow 56 = .ok (.ireturn, 1) := by decide +kernel
theorem d8_phaseAfter_0 : decode b8_phaseAfter 0 = .ok (.iload_n 1, 1) := by decide +kernel
theorem d8_phaseAfter_1 : decode b8_phaseAfter 1 = .ok (.ifCond .eq 5, 3) := by decide +kernel
theorem d8_phaseAfter_4 : decode b8_phaseAfter 4 = .ok (.iconst 3, 1) := by decide +kernel
theorem d8_phaseAfter_5 : decode b8_phaseAfter 5 = .ok (.ireturn, 1) := by decide +kernel
theorem d8_phaseAfter_6 : decode b8_phaseAfter 6 = .ok (.aload_n 0, 1) := by decide +kernel
theorem d8_phaseAfter_7 : decode b8_phaseAfter 7 = .ok (.getfield 37, 3) := by decide +kernel
theorem d8_phaseAfter_10 : decode b8_phaseAfter 10 = .ok (.invokevirtual 155, 3) := by decide +kernel
theorem d8_phaseAfter_13 : decode b8_phaseAfter 13 = .ok (.ifCond .ne 7, 3) := by decide +kernel
theorem d8_phaseAfter_16 : decode b8_phaseAfter 16 = .ok (.iconst 2, 1) := by decide +kernel
theorem d8_phaseAfter_17 : decode b8_phaseAfter 17 = .ok (.goto 4, 3) := by decide +kernel
theorem d8_phaseAfter_20 : decode b8_phaseAfter 20 = .ok (.iconst 1, 1) := by decide +kernel
theorem d8_phaseAfter_21 : decode b8_phaseAfter 21 = .ok (.ireturn, 1) := by decide +kernel
theorem d8_throwTrap_0 : decode b8_throwTrap 0 = .ok (.iload_n 0, 1) := by decide +kernel
theorem d8_throwTrap_1 : decode b8_throwTrap 1 = .ok (.tableswitch 63 2 5 #[31, 39, 47, 55], 31) := by decide +kernel
theorem d8_throwTrap_32 : decode b8_throwTrap 32 = .ok (.new 158, 3) := by decide +kernel
theorem d8_throwTrap_35 : decode b8_throwTrap 35 = .ok (.dup, 1) := by decide +kernel
theorem d8_throwTrap_36 : decode b8_throwTrap 36 = .ok (.invokespecial 160, 3) := by decide +kernel
theorem d8_throwTrap_39 : decode b8_throwTrap 39 = .ok (.athrow, 1) := by decide +kernel
theorem d8_throwTrap_40 : decode b8_throwTrap 40 = .ok (.new 73, 3) := by decide +kernel
theorem d8_throwTrap_43 : decode b8_throwTrap 43 = .ok (.dup, 1) := by decide +kernel
theorem d8_throwTrap_44 : decode b8_throwTrap 44 = .ok (.invokespecial 75, 3) := by decide +kernel
theorem d8_throwTrap_47 : decode b8_throwTrap 47 = .ok (.athrow, 1) := by decide +kernel
theorem d8_throwTrap_48 : decode b8_throwTrap 48 = .ok (.new 116, 3) := by decide +kernel
theorem d8_throwTrap_51 : decode b8_throwTrap 51 = .ok (.dup, 1) := by decide +kernel
theorem d8_throwTrap_52 : decode b8_throwTrap 52 = .ok (.invokespecial 118, 3) := by decide +kernel
theorem d8_throwTrap_55 : decode b8_throwTrap 55 = .ok (.athrow, 1) := by decide +kernel
theorem d8_throwTrap_56 : decode b8_throwTrap 56 = .ok (.new 84, 3) := by decide +kernel
theorem d8_throwTrap_59 : decode b8_throwTrap 59 = .ok (.dup, 1) := by decide +kernel
theorem d8_throwTrap_60 : decode b8_throwTrap 60 = .ok (.invokespecial 86, 3) := by decide +kernel
theorem d8_throwTrap_63 : decode b8_throwTrap 63 = .ok (.athrow, 1) := by decide +kernel
theorem d8_throwTrap_64 : decode b8_throwTrap 64 = .ok (.new 161, 3) := by decide +kernel
theorem d8_throwTrap_67 : decode b8_throwTrap 67 = .ok (.dup, 1) := by decide +kernel
theorem d8_throwTrap_68 : decode b8_throwTrap 68 = .ok (.invokespecial 163, 3) := by decide +kernel
theorem d8_throwTrap_71 : decode b8_throwTrap 71 = .ok (.athrow, 1) := by decide +kernel
theorem d9_init_0 : decode b9_init 0 = .ok (.aload_n 0, 1) := by decide +kernel
theorem d9_init_1 : decode b9_init 1 = .ok (.invokespecial 1, 3) := by decide +kernel
theorem d9_init_4 : decode b9_init 4 = .ok (.aload_n 0, 1) := by decide +kernel
theorem d9_init_5 : decode b9_init 5 = .ok (.bipush 36, 2) := by decide +kernel
theorem d9_init_7 : decode b9_init 7 = .ok (.newarray .int, 2) := by decide +kernel
theorem d9_init_9 : decode b9_init 9 = .ok (.putfield 7, 3) := by decide +kernel
theorem d9_init_12 : decode b9_init 12 = .ok (.aload_n 0, 1) := by decide +kernel
theorem d9_init_13 : decode b9_init 13 = .ok (.bipush 6, 2) := by decide +kernel
theorem d9_init_15 : decode b9_init 15 = .ok (.newarray .int, 2) := by decide +kernel
theorem d9_init_17 : decode b9_init 17 = .ok (.putfield 13, 3) := by decide +kernel
theorem d9_init_20 : decode b9_init 20 = .ok (.aload_n 0, 1) := by decide +kernel
theorem d9_init_21 : decode b9_init 21 = .ok (.bipush 6, 2) := by decide +kernel
theorem d9_init_23 : decode b9_init 23 = .ok (.newarray .int, 2) := by decide +kernel
theorem d9_init_25 : decode b9_init 25 = .ok (.putfield 16, 3) := by decide +kernel
theorem d9_init_28 : decode b9_init 28 = .ok (.aload_n 0, 1) := by decide +kernel
theorem d9_init_29 : decode b9_init 29 = .ok (.bipush 6, 2) := by decide +kernel
theorem d9_init_31 : decode b9_init 31 = .ok (.newarray .int, 2) := by decide +kernel
theorem d9_init_33 : decode b9_init 33 = .ok (.putfield 19, 3) := by decide +kernel
theorem d9_init_36 : decode b9_init 36 = .ok (.aload_n 0, 1) := by decide +kernel
theorem d9_init_37 : decode b9_init 37 = .ok (.sipush 360, 3) := by decide +kernel
theorem d9_init_40 : decode b9_init 40 = .ok (.newarray .int, 2) := by decide +kernel
theorem d9_init_42 : decode b9_init 42 = .ok (.putfield 22, 3) := by decide +kernel
theorem d9_init_45 : decode b9_init 45 = .ok (.aload_n 0, 1) := by decide +kernel
theorem d9_init_46 : decode b9_init 46 = .ok (.bipush 6, 2) := by decide +kernel
theorem d9_init_48 : decode b9_init 48 = .ok (.newarray .int, 2) := by decide +kernel
theorem d9_init_50 : decode b9_init 50 = .ok (.putfield 25, 3) := by decide +kernel
theorem d9_init_53 : decode b9_init 53 = .ok (.aload_n 0, 1) := by decide +kernel
theorem d9_init_54 : decode b9_init 54 = .ok (.bipush 8, 2) := by decide +kernel
theorem d9_init_56 : decode b9_init 56 = .ok (.newarray .int, 2) := by decide +kernel
theorem d9_init_58 : decode b9_init 58 = .ok (.putfield 28, 3) := by decide +kernel
theorem d9_init_61 : decode b9_init 61 = .ok (.aload_n 0, 1) := by decide +kernel
theorem d9_init_62 : decode b9_init 62 = .ok (.bipush 64, 2) := by decide +kernel
theorem d9_init_64 : decode b9_init 64 = .ok (.newarray .int, 2) := by decide +kernel
theorem d9_init_66 : decode b9_init 66 = .ok (.putfield 31, 3) := by decide +kernel
theorem d9_init_69 : decode b9_init 69 = .ok (.aload_n 0, 1) := by decide +kernel
theorem d9_init_70 : decode b9_init 70 = .ok (.iconst 3, 1) := by decide +kernel
theorem d9_init_71 : decode b9_init 71 = .ok (.newarray .long, 2) := by decide +kernel
theorem d9_init_73 : decode b9_init 73 = .ok (.putfield 34, 3) := by decide +kernel
theorem d9_init_76 : decode b9_init 76 = .ok (.aload_n 0, 1) := by decide +kernel
theorem d9_init_77 : decode b9_init 77 = .ok (.iconst 3, 1) := by decide +kernel
theorem d9_init_78 : decode b9_init 78 = .ok (.newarray .int, 2) := by decide +kernel
theorem d9_init_80 : decode b9_init 80 = .ok (.putfield 38, 3) := by decide +kernel
theorem d9_init_83 : decode b9_init 83 = .ok (.aload_n 0, 1) := by decide +kernel
theorem d9_init_84 : decode b9_init 84 = .ok (.bipush 16, 2) := by decide +kernel
theorem d9_init_86 : decode b9_init 86 = .ok (.newarray .int, 2) := by decide +kernel
theorem d9_init_88 : decode b9_init 88 = .ok (.putfield 41, 3) := by decide +kernel
theorem d9_init_91 : decode b9_init 91 = .ok (.aload_n 0, 1) := by decide +kernel
theorem d9_init_92 : decode b9_init 92 = .ok (.bipush 60, 2) := by decide +kernel
theorem d9_init_94 : decode b9_init 94 = .ok (.newarray .int, 2) := by decide +kernel
theorem d9_init_96 : decode b9_init 96 = .ok (.putfield 44, 3) := by decide +kernel
theorem d9_init_99 : decode b9_init 99 = .ok (.aload_n 0, 1) := by decide +kernel
theorem d9_init_100 : decode b9_init 100 = .ok (.bipush 60, 2) := by decide +kernel
theorem d9_init_102 : decode b9_init 102 = .ok (.newarray .int, 2) := by decide +kernel
theorem d9_init_104 : decode b9_init 104 = .ok (.putfield 47, 3) := by decide +kernel
theorem d9_init_107 : decode b9_init 107 = .ok (.aload_n 0, 1) := by decide +kernel
theorem d9_init_108 : decode b9_init 108 = .ok (.bipush 60, 2) := by decide +kernel
theorem d9_init_110 : decode b9_init 110 = .ok (.newarray .int, 2) := by decide +kernel
theorem d9_init_112 : decode b9_init 112 = .ok (.putfield 50, 3) := by decide +kernel
theorem d9_init_115 : decode b9_init 115 = .ok (.aload_n 0, 1) := by decide +kernel
theorem d9_init_116 : decode b9_init 116 = .ok (.bipush 60, 2) := by decide +kernel
theorem d9_init_118 : decode b9_init 118 = .ok (.newarray .boolean, 2) := by decide +kernel
theorem d9_init_120 : decode b9_init 120 = .ok (.putfield 53, 3) := by decide +kernel
theorem d9_init_123 : decode b9_init 123 = .ok (.aload_n 0, 1) := by decide +kernel
theorem d9_init_124 : decode b9_init 124 = .ok (.bipush 60, 2) := by decide +kernel
theorem d9_init_126 : decode b9_init 126 = .ok (.newarray .boolean, 2) := by decide +kernel
theorem d9_init_128 : decode b9_init 128 = .ok (.putfield 57, 3) := by decide +kernel
theorem d9_init_131 : decode b9_init 131 = .ok (.aload_n 0, 1) := by decide +kernel
theorem d9_init_132 : decode b9_init 132 = .ok (.sipush 200, 3) := by decide +kernel
theorem d9_init_135 : decode b9_init 135 = .ok (.newarray .long, 2) := by decide +kernel
theorem d9_init_137 : decode b9_init 137 = .ok (.putfield 60, 3) := by decide +kernel
theorem d9_init_140 : decode b9_init 140 = .ok (.aload_n 0, 1) := by decide +kernel
theorem d9_init_141 : decode b9_init 141 = .ok (.sipush 200, 3) := by decide +kernel
theorem d9_init_144 : decode b9_init 144 = .ok (.newarray .double, 2) := by decide +kernel
theorem d9_init_146 : decode b9_init 146 = .ok (.putfield 63, 3) := by decide +kernel
theorem d9_init_149 : decode b9_init 149 = .ok (.aload_n 0, 1) := by decide +kernel
theorem d9_init_150 : decode b9_init 150 = .ok (.bipush 60, 2) := by decide +kernel
theorem d9_init_152 : decode b9_init 152 = .ok (.newarray .int, 2) := by decide +kernel
theorem d9_init_154 : decode b9_init 154 = .ok (.putfield 67, 3) := by decide +kernel
theorem d9_init_157 : decode b9_init 157 = .ok (.aload_n 0, 1) := by decide +kernel
theorem d9_init_158 : decode b9_init 158 = .ok (.bipush 36, 2) := by decide +kernel
theorem d9_init_160 : decode b9_init 160 = .ok (.newarray .long, 2) := by decide +kernel
theorem d9_init_162 : decode b9_init 162 = .ok (.putfield 70, 3) := by decide +kernel
theorem d9_init_165 : decode b9_init 165 = .ok (.aload_n 0, 1) := by decide +kernel
theorem d9_init_166 : decode b9_init 166 = .ok (.bipush 36, 2) := by decide +kernel
theorem d9_init_168 : decode b9_init 168 = .ok (.newarray .double, 2) := by decide +kernel
theorem d9_init_170 : decode b9_init 170 = .ok (.putfield 73, 3) := by decide +kernel
theorem d9_init_173 : decode b9_init 173 = .ok (.aload_n 0, 1) := by decide +kernel
theorem d9_init_174 : decode b9_init 174 = .ok (.bipush 6, 2) := by decide +kernel
theorem d9_init_176 : decode b9_init 176 = .ok (.newarray .int, 2) := by decide +kernel
theorem d9_init_178 : decode b9_init 178 = .ok (.putfield 76, 3) := by decide +kernel
theorem d9_init_181 : decode b9_init 181 = .ok (.aload_n 0, 1) := by decide +kernel
theorem d9_init_182 : decode b9_init 182 = .ok (.bipush 6, 2) := by decide +kernel
theorem d9_init_184 : decode b9_init 184 = .ok (.newarray .int, 2) := by decide +kernel
theorem d9_init_186 : decode b9_init 186 = .ok (.putfield 79, 3) := by decide +kernel
theorem d9_init_189 : decode b9_init 189 = .ok (.aload_n 0, 1) := by decide +kernel
theorem d9_init_190 : decode b9_init 190 = .ok (.bipush 6, 2) := by decide +kernel
theorem d9_init_192 : decode b9_init 192 = .ok (.newarray .int, 2) := by decide +kernel
theorem d9_init_194 : decode b9_init 194 = .ok (.putfield 82, 3) := by decide +kernel
theorem d9_init_197 : decode b9_init 197 = .ok (.aload_n 0, 1) := by decide +kernel
theorem d9_init_198 : decode b9_init 198 = .ok (.sipush 240, 3) := by decide +kernel
theorem d9_init_201 : decode b9_init 201 = .ok (.newarray .int, 2) := by decide +kernel
theorem d9_init_203 : decode b9_init 203 = .ok (.putfield 85, 3) := by decide +kernel
theorem d9_init_206 : decode b9_init 206 = .ok (.iconst 0, 1) := by decide +kernel
theorem d9_init_207 : decode b9_init 207 = .ok (.istore_n 1, 1) := by decide +kernel
theorem d9_init_208 : decode b9_init 208 = .ok (.iload_n 1, 1) := by decide +kernel
theorem d9_init_209 : decode b9_init 209 = .ok (.bipush 8, 2) := by decide +kernel
theorem d9_init_211 : decode b9_init 211 = .ok (.if_icmp .ge 16, 3) := by decide +kernel
theorem d9_init_214 : decode b9_init 214 = .ok (.aload_n 0, 1) := by decide +kernel
theorem d9_init_215 : decode b9_init 215 = .ok (.getfield 28, 3) := by decide +kernel
theorem d9_init_218 : decode b9_init 218 = .ok (.iload_n 1, 1) := by decide +kernel
theorem d9_init_219 : decode b9_init 219 = .ok (.iconst (-1), 1) := by decide +kernel
theorem d9_init_220 : decode b9_init 220 = .ok (.iastore, 1) := by decide +kernel
theorem d9_init_221 : decode b9_init 221 = .ok (.iinc 1 1, 3) := by decide +kernel
theorem d9_init_224 : decode b9_init 224 = .ok (.goto (-16), 3) := by decide +kernel
theorem d9_init_227 : decode b9_init 227 = .ok (.return_, 1) := by decide +kernel
theorem d9_thrown_0 : decode b9_thrown 0 = .ok (.aload_n 0, 1) := by decide +kernel
theorem d9_thrown_1 : decode b9_thrown 1 = .ok (.getfield 88, 3) := by decide +kernel
theorem d9_thrown_4 : decode b9_thrown 4 = .ok (.ireturn, 1) := by decide +kernel
theorem d9_in_0 : decode b9_in 0 = .ok (.iload_n 0, 1) := by decide +kernel
theorem d9_in_1 : decode b9_in 1 = .ok (.iload_n 1, 1) := by decide +kernel
theorem d9_in_2 : decode b9_in 2 = .ok (.if_icmp .lt 12, 3) := by decide +kernel
theorem d9_in_5 : decode b9_in 5 = .ok (.iload_n 0, 1) := by decide +kernel
theorem d9_in_6 : decode b9_in 6 = .ok (.iload_n 2, 1) := by decide +kernel
theorem d9_in_7 : decode b9_in 7 = .ok (.if_icmp .gt 7, 3) := by decide +kernel
theorem d9_in_10 : decode b9_in 10 = .ok (.iconst 1, 1) := by decide +kernel
theorem d9_in_11 : decode b9_in 11 = .ok (.goto 4, 3) := by decide +kernel
theorem d9_in_14 : decode b9_in 14 = .ok (.iconst 0, 1) := by decide +kernel
theorem d9_in_15 : decode b9_in 15 = .ok (.ireturn, 1) := by decide +kernel
theorem d9_good_0 : decode b9_good 0 = .ok (.aload_n 0, 1) := by decide +kernel
theorem d9_good_1 : decode b9_good 1 = .ok (.iload_n 1, 1) := by decide +kernel
theorem d9_good_2 : decode b9_good 2 = .ok (.ifCond .eq 7, 3) := by decide +kernel
theorem d9_good_5 : decode b9_good 5 = .ok (.iconst 0, 1) := by decide +kernel
theorem d9_good_6 : decode b9_good 6 = .ok (.goto 4, 3) := by decide +kernel
theorem d9_good_9 : decode b9_good 9 = .ok (.iload_n 2, 1) := by decide +kernel
theorem d9_good_10 : decode b9_good 10 = .ok (.putfield 88, 3) := by decide +kernel
theorem d9_good_13 : decode b9_good 13 = .ok (.iload_n 1, 1) := by decide +kernel
theorem d9_good_14 : decode b9_good 14 = .ok (.ireturn, 1) := by decide +kernel
theorem d9_digits_0 : decode b9_digits 0 = .ok (.iload_n 0, 1) := by decide +kernel
theorem d9_digits_1 : decode b9_digits 1 = .ok (.ifCond .ne 5, 3) := by decide +kernel
theorem d9_digits_4 : decode b9_digits 4 = .ok (.iconst 0, 1) := by decide +kernel
theorem d9_digits_5 : decode b9_digits 5 = .ok (.ireturn, 1) := by decide +kernel
theorem d9_digits_6 : decode b9_digits 6 = .ok (.iload_n 0, 1) := by decide +kernel
theorem d9_digits_7 : decode b9_digits 7 = .ok (.ifCond .lt 10, 3) := by decide +kernel
theorem d9_digits_10 : decode b9_digits 10 = .ok (.iload_n 0, 1) := by decide +kernel
theorem d9_digits_11 : decode b9_digits 11 = .ok (.sipush 333, 3) := by decide +kernel
theorem d9_digits_14 : decode b9_digits 14 = .ok (.if_icmp .le 5, 3) := by decide +kernel
theorem d9_digits_17 : decode b9_digits 17 = .ok (.iconst (-1), 1) := by decide +kernel
theorem d9_digits_18 : decode b9_digits 18 = .ok (.ireturn, 1) := by decide +kernel
theorem d9_digits_19 : decode b9_digits 19 = .ok (.iconst 0, 1) := by decide +kernel
theorem d9_digits_20 : decode b9_digits 20 = .ok (.istore_n 1, 1) := by decide +kernel
theorem d9_digits_21 : decode b9_digits 21 = .ok (.iload_n 0, 1) := by decide +kernel
theorem d9_digits_22 : decode b9_digits 22 = .ok (.istore_n 2, 1) := by decide +kernel
theorem d9_digits_23 : decode b9_digits 23 = .ok (.iload_n 2, 1) := by decide +kernel
theorem d9_digits_24 : decode b9_digits 24 = .ok (.ifCond .le 28, 3) := by decide +kernel
theorem d9_digits_27 : decode b9_digits 27 = .ok (.iload_n 2, 1) := by decide +kernel
theorem d9_digits_28 : decode b9_digits 28 = .ok (.bipush 10, 2) := by decide +kernel
theorem d9_digits_30 : decode b9_digits 30 = .ok (.irem, 1) := by decide +kernel
theorem d9_digits_31 : decode b9_digits 31 = .ok (.iconst 1, 1) := by decide +kernel
theorem d9_digits_32 : decode b9_digits 32 = .ok (.iconst 3, 1) := by decide +kernel
theorem d9_digits_33 : decode b9_digits 33 = .ok (.invokestatic 92, 3) := by decide +kernel
theorem d9_digits_36 : decode b9_digits 36 = .ok (.ifCond .ne 5, 3) := by decide +kernel
theorem d9_digits_39 : decode b9_digits 39 = .ok (.iconst (-1), 1) := by decide +kernel
theorem d9_digits_40 : decode b9_digits 40 = .ok (.ireturn, 1) := by decide +kernel
theorem d9_digits_41 : decode b9_digits 41 = .ok (.iinc 1 1, 3) := by decide +kernel
theorem d9_digits_44 : decode b9_digits 44 = .ok (.iload_n 2, 1) := by decide +kernel
theorem d9_digits_45 : decode b9_digits 45 = .ok (.bipush 10, 2) := by decide +kernel
theorem d9_digits_47 : decode b9_digits 47 = .ok (.idiv, 1) := by decide +kernel
theorem d9_digits_48 : decode b9_digits 48 = .ok (.istore_n 2, 1) := by decide +kernel
theorem d9_digits_49 : decode b9_digits 49 = .ok (.goto (-26), 3) := by decide +kernel
theorem d9_digits_52 : decode b9_digits 52 = .ok (.iload_n 1, 1) := by decide +kernel
theorem d9_digits_53 : decode b9_digits 53 = .ok (.ireturn, 1) := by decide +kernel
theorem d9_setKinds_0 : decode b9_setKinds 0 = .ok (.iload_n 3, 1) := by decide +kernel
theorem d9_setKinds_1 : decode b9_setKinds 1 = .ok (.istore 5, 2) := by decide +kernel
theorem d9_setKinds_3 : decode b9_setKinds 3 = .ok (.iload 4, 2) := by decide +kernel
theorem d9_setKinds_5 : decode b9_setKinds 5 = .ok (.iconst 1, 1) := by decide +kernel
theorem d9_setKinds_6 : decode b9_setKinds 6 = .ok (.isub, 1) := by decide +kernel
theorem d9_setKinds_7 : decode b9_setKinds 7 = .ok (.istore 6, 2) := by decide +kernel
theorem d9_setKinds_9 : decode b9_setKinds 9 = .ok (.iload 6, 2) := by decide +kernel
theorem d9_setKinds_11 : decode b9_setKinds 11 = .ok (.ifCond .lt 35, 3) := by decide +kernel
theorem d9_setKinds_14 : decode b9_setKinds 14 = .ok (.aload_n 0, 1) := by decide +kernel
theorem d9_setKinds_15 : decode b9_setKinds 15 = .ok (.getfield 7, 3) := by decide +kernel
theorem d9_setKinds_18 : decode b9_setKinds 18 = .ok (.bipush 6, 2) := by decide +kernel
theorem d9_setKinds_20 : decode b9_setKinds 20 = .ok (.iload_n 1, 1) := by decide +kernel
theorem d9_setKinds_21 : decode b9_setKinds 21 = .ok (.imul, 1) := by decide +kernel
theorem d9_setKinds_22 : decode b9_setKinds 22 = .ok (.iload_n 2, 1) := by decide +kernel
theorem d9_setKinds_23 : decode b9_setKinds 23 = .ok (.iadd, 1) := by decide +kernel
theorem d9_setKinds_24 : decode b9_setKinds 24 = .ok (.iload 6, 2) := by decide +kernel
theorem d9_setKinds_26 : decode b9_setKinds 26 = .ok (.iadd, 1) := by decide +kernel
theorem d9_setKinds_27 : decode b9_setKinds 27 = .ok (.iload 5, 2) := by decide +kernel
theorem d9_setKinds_29 : decode b9_setKinds 29 = .ok (.bipush 10, 2) := by decide +kernel
theorem d9_setKinds_31 : decode b9_setKinds 31 = .ok (.irem, 1) := by decide +kernel
theorem d9_setKinds_32 : decode b9_setKinds 32 = .ok (.iastore, 1) := by decide +kernel
theorem d9_setKinds_33 : decode b9_setKinds 33 = .ok (.iload 5, 2) := by decide +kernel
theorem d9_setKinds_35 : decode b9_setKinds 35 = .ok (.bipush 10, 2) := by decide +kernel
theorem d9_setKinds_37 : decode b9_setKinds 37 = .ok (.idiv, 1) := by decide +kernel
theorem d9_setKinds_38 : decode b9_setKinds 38 = .ok (.istore 5, 2) := by decide +kernel
theorem d9_setKinds_40 : decode b9_setKinds 40 = .ok (.iinc 6 (-1), 3) := by decide +kernel
theorem d9_setKinds_43 : decode b9_setKinds 43 = .ok (.goto (-34), 3) := by decide +kernel
theorem d9_setKinds_46 : decode b9_setKinds 46 = .ok (.return_, 1) := by decide +kernel
theorem d9_shape_0 : decode b9_shape 0 = .ok (.iload_n 2, 1) := by decide +kernel
theorem d9_shape_1 : decode b9_shape 1 = .ok (.invokestatic 96, 3) := by decide +kernel
theorem d9_shape_4 : decode b9_shape 4 = .ok (.istore 5, 2) := by decide +kernel
theorem d9_shape_6 : decode b9_shape 6 = .ok (.iload 4, 2) := by decide +kernel
theorem d9_shape_8 : decode b9_shape 8 = .ok (.invokestatic 96, 3) := by decide +kernel
theorem d9_shape_11 : decode b9_shape 11 = .ok (.istore 6, 2) := by decide +kernel
theorem d9_shape_13 : decode b9_shape 13 = .ok (.aload_n 0, 1) := by decide +kernel
theorem d9_shape_14 : decode b9_shape 14 = .ok (.iload_n 1, 1) := by decide +kernel
theorem d9_shape_15 : decode b9_shape 15 = .ok (.iconst 0, 1) := by decide +kernel
theorem d9_shape_16 : decode b9_shape 16 = .ok (.iconst 5, 1) := by decide +kernel
theorem d9_shape_17 : decode b9_shape 17 = .ok (.invokestatic 92, 3) := by decide +kernel
theorem d9_shape_20 : decode b9_shape 20 = .ok (.ifCond .eq 26, 3) := by decide +kernel
theorem d9_shape_23 : decode b9_shape 23 = .ok (.iload 5, 2) := by decide +kernel
theorem d9_shape_25 : decode b9_shape 25 = .ok (.ifCond .lt 21, 3) := by decide +kernel
theorem d9_shape_28 : decode b9_shape 28 = .ok (.iload 6, 2) := by decide +kernel
theorem d9_shape_30 : decode b9_shape 30 = .ok (.ifCond .lt 16, 3) := by decide +kernel
theorem d9_shape_33 : decode b9_shape 33 = .ok (.iload_n 3, 1) := by decide +kernel
theorem d9_shape_34 : decode b9_shape 34 = .ok (.iconst 0, 1) := by decide +kernel
theorem d9_shape_35 : decode b9_shape 35 = .ok (.iconst 3, 1) := by decide +kernel
theorem d9_shape_36 : decode b9_shape 36 = .ok (.invokestatic 92, 3) := by decide +kernel
theorem d9_shape_39 : decode b9_shape 39 = .ok (.ifCond .eq 7, 3) := by decide +kernel
theorem d9_shape_42 : decode b9_shape 42 = .ok (.iconst 1, 1) := by decide +kernel
theorem d9_shape_43 : decode b9_shape 43 = .ok (.goto 4, 3) := by decide +kernel
theorem d9_shape_46 : decode b9_shape 46 = .ok (.iconst 0, 1) := by decide +kernel
theorem d9_shape_47 : decode b9_shape 47 = .ok (.iconst 1, 1) := by decide +kernel
theorem d9_shape_48 : decode b9_shape 48 = .ok (.invokevirtual 100, 3) := by decide +kernel
theorem d9_shape_51 : decode b9_shape 51 = .ok (.ifCond .ne 5, 3) := by decide +kernel
theorem d9_shape_54 : decode b9_shape 54 = .ok (.iconst 0, 1) := by decide +kernel
theorem d9_shape_55 : decode b9_shape 55 = .ok (.ireturn, 1) := by decide +kernel
theorem d9_shape_56 : decode b9_shape 56 = .ok (.aload_n 0, 1) := by decide +kernel
theorem d9_shape_57 : decode b9_shape 57 = .ok (.aload_n 0, 1) := by decide +kernel
theorem d9_shape_58 : decode b9_shape 58 = .ok (.getfield 104, 3) := by decide +kernel
theorem d9_shape_61 : decode b9_shape 61 = .ok (.iconst 1, 1) := by decide +kernel
theorem d9_shape_62 : decode b9_shape 62 = .ok (.if_icmp .eq 7, 3) := by decide +kernel
theorem d9_shape_65 : decode b9_shape 65 = .ok (.iconst 1, 1) := by decide +kernel
theorem d9_shape_66 : decode b9_shape 66 = .ok (.goto 4, 3) := by decide +kernel
theorem d9_shape_69 : decode b9_shape 69 = .ok (.iconst 0, 1) := by decide +kernel
theorem d9_shape_70 : decode b9_shape 70 = .ok (.iconst 2, 1) := by decide +kernel
theorem d9_shape_71 : decode b9_shape 71 = .ok (.invokevirtual 100, 3) := by decide +kernel
theorem d9_shape_74 : decode b9_shape 74 = .ok (.ifCond .ne 5, 3) := by decide +kernel
theorem d9_shape_77 : decode b9_shape 77 = .ok (.iconst 0, 1) := by decide +kernel
theorem d9_shape_78 : decode b9_shape 78 = .ok (.ireturn, 1) := by decide +kernel
theorem d9_shape_79 : decode b9_shape 79 = .ok (.aload_n 0, 1) := by decide +kernel
theorem d9_shape_80 : decode b9_shape 80 = .ok (.iload_n 1, 1) := by decide +kernel
theorem d9_shape_81 : decode b9_shape 81 = .ok (.iconst 0, 1) := by decide +kernel
theorem d9_shape_82 : decode b9_shape 82 = .ok (.iload_n 2, 1) := by decide +kernel
theorem d9_shape_83 : decode b9_shape 83 = .ok (.iload 5, 2) := by decide +kernel
theorem d9_shape_85 : decode b9_shape 85 = .ok (.invokevirtual 107, 3) := by decide +kernel
theorem d9_shape_88 : decode b9_shape 88 = .ok (.aload_n 0, 1) := by decide +kernel
theorem d9_shape_89 : decode b9_shape 89 = .ok (.iload_n 1, 1) := by decide +kernel
theorem d9_shape_90 : decode b9_shape 90 = .ok (.iload 5, 2) := by decide +kernel
theorem d9_shape_92 : decode b9_shape 92 = .ok (.iload 4, 2) := by decide +kernel
theorem d9_shape_94 : decode b9_shape 94 = .ok (.iload 6, 2) := by decide +kernel
theorem d9_shape_96 : decode b9_shape 96 = .ok (.invokevirtual 107, 3) := by decide +kernel
theorem d9_shape_99 : decode b9_shape 99 = .ok (.aload_n 0, 1) := by decide +kernel
theorem d9_shape_100 : decode b9_shape 100 = .ok (.getfield 13, 3) := by decide +kernel
theorem d9_shape_103 : decode b9_shape 103 = .ok (.iload_n 1, 1) := by decide +kernel
theorem d9_shape_104 : decode b9_shape 104 = .ok (.iload 5, 2) := by decide +kernel
theorem d9_shape_106 : decode b9_shape 106 = .ok (.iastore, 1) := by decide +kernel
theorem d9_shape_107 : decode b9_shape 107 = .ok (.aload_n 0, 1) := by decide +kernel
theorem d9_shape_108 : decode b9_shape 108 = .ok (.getfield 16, 3) := by decide +kernel
theorem d9_shape_111 : decode b9_shape 111 = .ok (.iload_n 1, 1) := by decide +kernel
theorem d9_shape_112 : decode b9_shape 112 = .ok (.iload 5, 2) := by decide +kernel
theorem d9_shape_114 : decode b9_shape 114 = .ok (.iload 6, 2) := by decide +kernel
theorem d9_shape_116 : decode b9_shape 116 = .ok (.iadd, 1) := by decide +kernel
theorem d9_shape_117 : decode b9_shape 117 = .ok (.iastore, 1) := by decide +kernel
theorem d9_shape_118 : decode b9_shape 118 = .ok (.aload_n 0, 1) := by decide +kernel
theorem d9_shape_119 : decode b9_shape 119 = .ok (.getfield 19, 3) := by decide +kernel
theorem d9_shape_122 : decode b9_shape 122 = .ok (.iload_n 1, 1) := by decide +kernel
theorem d9_shape_123 : decode b9_shape 123 = .ok (.iload_n 3, 1) := by decide +kernel
theorem d9_shape_124 : decode b9_shape 124 = .ok (.iastore, 1) := by decide +kernel
theorem d9_shape_125 : decode b9_shape 125 = .ok (.aload_n 0, 1) := by decide +kernel
theorem d9_shape_126 : decode b9_shape 126 = .ok (.getfield 25, 3) := by decide +kernel
theorem d9_shape_129 : decode b9_shape 129 = .ok (.iload_n 1, 1) := by decide +kernel
theorem d9_shape_130 : decode b9_shape 130 = .ok (.iconst 0, 1) := by decide +kernel
theorem d9_shape_131 : decode b9_shape 131 = .ok (.iastore, 1) := by decide +kernel
theorem d9_shape_132 : decode b9_shape 132 = .ok (.aload_n 0, 1) := by decide +kernel
theorem d9_shape_133 : decode b9_shape 133 = .ok (.iconst 0, 1) := by decide +kernel
theorem d9_shape_134 : decode b9_shape 134 = .ok (.putfield 111, 3) := by decide +kernel
theorem d9_shape_137 : decode b9_shape 137 = .ok (.iload 5, 2) := by decide +kernel
theorem d9_shape_139 : decode b9_shape 139 = .ok (.iload 6, 2) := by decide +kernel
theorem d9_shape_141 : decode b9_shape 141 = .ok (.iadd, 1) := by decide +kernel
theorem d9_shape_142 : decode b9_shape 142 = .ok (.ireturn, 1) := by decide +kernel
theorem d9_code_0 : decode b9_code 0 = .ok (.aload_n 0, 1) := by decide +kernel
theorem d9_code_1 : decode b9_code 1 = .ok (.iload_n 1, 1) := by decide +kernel
theorem d9_code_2 : decode b9_code 2 = .ok (.iconst 0, 1) := by decide +kernel
theorem d9_code_3 : decode b9_code 3 = .ok (.iconst 5, 1) := by decide +kernel
theorem d9_code_4 : decode b9_code 4 = .ok (.invokestatic 92, 3) := by decide +kernel
theorem d9_code_7 : decode b9_code 7 = .ok (.ifCond .eq 18, 3) := by decide +kernel
theorem d9_code_10 : decode b9_code 10 = .ok (.iload 4, 2) := by decide +kernel
theorem d9_code_12 : decode b9_code 12 = .ok (.iconst 1, 1) := by decide +kernel
theorem d9_code_13 : decode b9_code 13 = .ok (.bipush 8, 2) := by decide +kernel
theorem d9_code_15 : decode b9_code 15 = .ok (.invokestatic 92, 3) := by decide +kernel
theorem d9_code_18 : decode b9_code 18 = .ok (.ifCond .eq 7, 3) := by decide +kernel
theorem d9_code_21 : decode b9_code 21 = .ok (.iconst 1, 1) := by decide +kernel
theorem d9_code_22 : decode b9_code 22 = .ok (.goto 4, 3) := by decide +kernel
theorem d9_code_25 : decode b9_code 25 = .ok (.iconst 0, 1) := by decide +kernel
theorem d9_code_26 : decode b9_code 26 = .ok (.iconst 1, 1) := by decide +kernel
theorem d9_code_27 : decode b9_code 27 = .ok (.invokevirtual 100, 3) := by decide +kernel
theorem d9_code_30 : decode b9_code 30 = .ok (.ifCond .ne 5, 3) := by decide +kernel
theorem d9_code_33 : decode b9_code 33 = .ok (.iconst 0, 1) := by decide +kernel
theorem d9_code_34 : decode b9_code 34 = .ok (.ireturn, 1) := by decide +kernel
theorem d9_code_35 : decode b9_code 35 = .ok (.aload_n 0, 1) := by decide +kernel
theorem d9_code_36 : decode b9_code 36 = .ok (.aload_n 0, 1) := by decide +kernel
theorem d9_code_37 : decode b9_code 37 = .ok (.getfield 104, 3) := by decide +kernel
theorem d9_code_40 : decode b9_code 40 = .ok (.iconst 1, 1) := by decide +kernel
theorem d9_code_41 : decode b9_code 41 = .ok (.if_icmp .eq 7, 3) := by decide +kernel
theorem d9_code_44 : decode b9_code 44 = .ok (.iconst 1, 1) := by decide +kernel
theorem d9_code_45 : decode b9_code 45 = .ok (.goto 4, 3) := by decide +kernel
theorem d9_code_48 : decode b9_code 48 = .ok (.iconst 0, 1) := by decide +kernel
theorem d9_code_49 : decode b9_code 49 = .ok (.iconst 2, 1) := by decide +kernel
theorem d9_code_50 : decode b9_code 50 = .ok (.invokevirtual 100, 3) := by decide +kernel
theorem d9_code_53 : decode b9_code 53 = .ok (.ifCond .ne 5, 3) := by decide +kernel
theorem d9_code_56 : decode b9_code 56 = .ok (.iconst 0, 1) := by decide +kernel
theorem d9_code_57 : decode b9_code 57 = .ok (.ireturn, 1) := by decide +kernel
theorem d9_code_58 : decode b9_code 58 = .ok (.aload_n 0, 1) := by decide +kernel
theorem d9_code_59 : decode b9_code 59 = .ok (.aload_n 0, 1) := by decide +kernel
theorem d9_code_60 : decode b9_code 60 = .ok (.getfield 25, 3) := by decide +kernel
theorem d9_code_63 : decode b9_code 63 = .ok (.iload_n 1, 1) := by decide +kernel
theorem d9_code_64 : decode b9_code 64 = .ok (.iaload, 1) := by decide +kernel
theorem d9_code_65 : decode b9_code 65 = .ok (.iload 4, 2) := by decide +kernel
theorem d9_code_67 : decode b9_code 67 = .ok (.iadd, 1) := by decide +kernel
theorem d9_code_68 : decode b9_code 68 = .ok (.bipush 60, 2) := by decide +kernel
theorem d9_code_70 : decode b9_code 70 = .ok (.if_icmp .gt 7, 3) := by decide +kernel
theorem d9_code_73 : decode b9_code 73 = .ok (.iconst 1, 1) := by decide +kernel
theorem d9_code_74 : decode b9_code 74 = .ok (.goto 4, 3) := by decide +kernel
theorem d9_code_77 : decode b9_code 77 = .ok (.iconst 0, 1) := by decide +kernel
theorem d9_code_78 : decode b9_code 78 = .ok (.iconst 3, 1) := by decide +kernel
theorem d9_code_79 : decode b9_code 79 = .ok (.invokevirtual 100, 3) := by decide +kernel
theorem d9_code_82 : decode b9_code 82 = .ok (.ifCond .ne 5, 3) := by decide +kernel
theorem d9_code_85 : decode b9_code 85 = .ok (.iconst 0, 1) := by decide +kernel
theorem d9_code_86 : decode b9_code 86 = .ok (.ireturn, 1) := by decide +kernel
theorem d9_code_87 : decode b9_code 87 = .ok (.iload 4, 2) := by decide +kernel
theorem d9_code_89 : decode b9_code 89 = .ok (.iconst 1, 1) := by decide +kernel
theorem d9_code_90 : decode b9_code 90 = .ok (.isub, 1) := by decide +kernel
theorem d9_code_91 : decode b9_code 91 = .ok (.istore 5, 2) := by decide +kernel
theorem d9_code_93 : decode b9_code 93 = .ok (.iload 5, 2) := by decide +kernel
theorem d9_code_95 : decode b9_code 95 = .ok (.ifCond .lt 47, 3) := by decide +kernel
theorem d9_code_98 : decode b9_code 98 = .ok (.aload_n 0, 1) := by decide +kernel
theorem d9_code_99 : decode b9_code 99 = .ok (.getfield 22, 3) := by decide +kernel
theorem d9_code_102 : decode b9_code 102 = .ok (.bipush 60, 2) := by decide +kernel
theorem d9_code_104 : decode b9_code 104 = .ok (.iload_n 1, 1) := by decide +kernel
theorem d9_code_105 : decode b9_code 105 = .ok (.imul, 1) := by decide +kernel
theorem d9_code_106 : decode b9_code 106 = .ok (.aload_n 0, 1) := by decide +kernel
theorem d9_code_107 : decode b9_code 107 = .ok (.getfield 25, 3) := by decide +kernel
theorem d9_code_110 : decode b9_code 110 = .ok (.iload_n 1, 1) := by decide +kernel
theorem d9_code_111 : decode b9_code 111 = .ok (.iaload, 1) := by decide +kernel
theorem d9_code_112 : decode b9_code 112 = .ok (.iadd, 1) := by decide +kernel
theorem d9_code_113 : decode b9_code 113 = .ok (.lload_n 2, 1) := by decide +kernel
theorem d9_code_114 : decode b9_code 114 = .ok (.bipush 8, 2) := by decide +kernel
theorem d9_code_116 : decode b9_code 116 = .ok (.iload 5, 2) := by decide +kernel
theorem d9_code_118 : decode b9_code 118 = .ok (.imul, 1) := by decide +kernel
theorem d9_code_119 : decode b9_code 119 = .ok (.lshr, 1) := by decide +kernel
theorem d9_code_120 : decode b9_code 120 = .ok (.l2i, 1) := by decide +kernel
theorem d9_code_121 : decode b9_code 121 = .ok (.sipush 255, 3) := by decide +kernel
theorem d9_code_124 : decode b9_code 124 = .ok (.iand, 1) := by decide +kernel
theorem d9_code_125 : decode b9_code 125 = .ok (.iastore, 1) := by decide +kernel
theorem d9_code_126 : decode b9_code 126 = .ok (.aload_n 0, 1) := by decide +kernel
theorem d9_code_127 : decode b9_code 127 = .ok (.getfield 25, 3) := by decide +kernel
theorem d9_code_130 : decode b9_code 130 = .ok (.iload_n 1, 1) := by decide +kernel
theorem d9_code_131 : decode b9_code 131 = .ok (.dup2, 1) := by decide +kernel
theorem d9_code_132 : decode b9_code 132 = .ok (.iaload, 1) := by decide +kernel
theorem d9_code_133 : decode b9_code 133 = .ok (.iconst 1, 1) := by decide +kernel
theorem d9_code_134 : decode b9_code 134 = .ok (.iadd, 1) := by decide +kernel
theorem d9_code_135 : decode b9_code 135 = .ok (.iastore, 1) := by decide +kernel
theorem d9_code_136 : decode b9_code 136 = .ok (.iinc 5 (-1), 3) := by decide +kernel
theorem d9_code_139 : decode b9_code 139 = .ok (.goto (-46), 3) := by decide +kernel
theorem d9_code_142 : decode b9_code 142 = .ok (.aload_n 0, 1) := by decide +kernel
theorem d9_code_143 : decode b9_code 143 = .ok (.iconst 0, 1) := by decide +kernel
theorem d9_code_144 : decode b9_code 144 = .ok (.putfield 111, 3) := by decide +kernel
theorem d9_code_147 : decode b9_code 147 = .ok (.aload_n 0, 1) := by decide +kernel
theorem d9_code_148 : decode b9_code 148 = .ok (.getfield 25, 3) := by decide +kernel
theorem d9_code_151 : decode b9_code 151 = .ok (.iload_n 1, 1) := by decide +kernel
theorem d9_code_152 : decode b9_code 152 = .ok (.iaload, 1) := by decide +kernel
theorem d9_code_153 : decode b9_code 153 = .ok (.ireturn, 1) := by decide +kernel
theorem d9_table_0 : decode b9_table 0 = .ok (.aload_n 0, 1) := by decide +kernel
theorem d9_table_1 : decode b9_table 1 = .ok (.iload_n 1, 1) := by decide +kernel
theorem d9_table_2 : decode b9_table 2 = .ok (.iconst 0, 1) := by decide +kernel
theorem d9_table_3 : decode b9_table 3 = .ok (.bipush 7, 2) := by decide +kernel
theorem d9_table_5 : decode b9_table 5 = .ok (.invokestatic 92, 3) := by decide +kernel
theorem d9_table_8 : decode b9_table 8 = .ok (.ifCond .eq 16, 3) := by decide +kernel
theorem d9_table_11 : decode b9_table 11 = .ok (.iload_n 2, 1) := by decide +kernel
theorem d9_table_12 : decode b9_table 12 = .ok (.iconst (-1), 1) := by decide +kernel
theorem d9_table_13 : decode b9_table 13 = .ok (.iconst 5, 1) := by decide +kernel
theorem d9_table_14 : decode b9_table 14 = .ok (.invokestatic 92, 3) := by decide +kernel
theorem d9_table_17 : decode b9_table 17 = .ok (.ifCond .eq 7, 3) := by decide +kernel
theorem d9_table_20 : decode b9_table 20 = .ok (.iconst 1, 1) := by decide +kernel
theorem d9_table_21 : decode b9_table 21 = .ok (.goto 4, 3) := by decide +kernel
theorem d9_table_24 : decode b9_table 24 = .ok (.iconst 0, 1) := by decide +kernel
theorem d9_table_25 : decode b9_table 25 = .ok (.iconst 1, 1) := by decide +kernel
theorem d9_table_26 : decode b9_table 26 = .ok (.invokevirtual 100, 3) := by decide +kernel
theorem d9_table_29 : decode b9_table 29 = .ok (.ifCond .ne 5, 3) := by decide +kernel
theorem d9_table_32 : decode b9_table 32 = .ok (.iconst 0, 1) := by decide +kernel
theorem d9_table_33 : decode b9_table 33 = .ok (.ireturn, 1) := by decide +kernel
theorem d9_table_34 : decode b9_table 34 = .ok (.aload_n 0, 1) := by decide +kernel
theorem d9_table_35 : decode b9_table 35 = .ok (.getfield 28, 3) := by decide +kernel
theorem d9_table_38 : decode b9_table 38 = .ok (.iload_n 1, 1) := by decide +kernel
theorem d9_table_39 : decode b9_table 39 = .ok (.iaload, 1) := by decide +kernel
theorem d9_table_40 : decode b9_table 40 = .ok (.istore_n 3, 1) := by decide +kernel
theorem d9_table_41 : decode b9_table 41 = .ok (.aload_n 0, 1) := by decide +kernel
theorem d9_table_42 : decode b9_table 42 = .ok (.getfield 28, 3) := by decide +kernel
theorem d9_table_45 : decode b9_table 45 = .ok (.iload_n 1, 1) := by decide +kernel
theorem d9_table_46 : decode b9_table 46 = .ok (.iload_n 2, 1) := by decide +kernel
theorem d9_table_47 : decode b9_table 47 = .ok (.iastore, 1) := by decide +kernel
theorem d9_table_48 : decode b9_table 48 = .ok (.iload_n 3, 1) := by decide +kernel
theorem d9_table_49 : decode b9_table 49 = .ok (.ireturn, 1) := by decide +kernel
theorem d9_isKnown_0 : decode b9_isKnown 0 = .ok (.iload_n 0, 1) := by decide +kernel
theorem d9_isKnown_1 : decode b9_isKnown 1 = .ok (.bipush 28, 2) := by decide +kernel
theorem d9_isKnown_3 : decode b9_isKnown 3 = .ok (.if_icmp .le 47, 3) := by decide +kernel
theorem d9_isKnown_6 : decode b9_isKnown 6 = .ok (.iload_n 0, 1) := by decide +kernel
theorem d9_isKnown_7 : decode b9_isKnown 7 = .ok (.bipush 30, 2) := by decide +kernel
theorem d9_isKnown_9 : decode b9_isKnown 9 = .ok (.bipush 45, 2) := by decide +kernel
theorem d9_isKnown_11 : decode b9_isKnown 11 = .ok (.invokestatic 92, 3) := by decide +kernel
theorem d9_isKnown_14 : decode b9_isKnown 14 = .ok (.ifCond .ne 36, 3) := by decide +kernel
theorem d9_isKnown_17 : decode b9_isKnown 17 = .ok (.iload_n 0, 1) := by decide +kernel
theorem d9_isKnown_18 : decode b9_isKnown 18 = .ok (.bipush 50, 2) := by decide +kernel
theorem d9_isKnown_20 : decode b9_isKnown 20 = .ok (.bipush 64, 2) := by decide +kernel
theorem d9_isKnown_22 : decode b9_isKnown 22 = .ok (.invokestatic 92, 3) := by decide +kernel
theorem d9_isKnown_25 : decode b9_isKnown 25 = .ok (.ifCond .ne 25, 3) := by decide +kernel
theorem d9_isKnown_28 : decode b9_isKnown 28 = .ok (.iload_n 0, 1) := by decide +kernel
theorem d9_isKnown_29 : decode b9_isKnown 29 = .ok (.bipush 70, 2) := by decide +kernel
theorem d9_isKnown_31 : decode b9_isKnown 31 = .ok (.bipush 76, 2) := by decide +kernel
theorem d9_isKnown_33 : decode b9_isKnown 33 = .ok (.invokestatic 92, 3) := by decide +kernel
theorem d9_isKnown_36 : decode b9_isKnown 36 = .ok (.ifCond .ne 14, 3) := by decide +kernel
theorem d9_isKnown_39 : decode b9_isKnown 39 = .ok (.iload_n 0, 1) := by decide +kernel
theorem d9_isKnown_40 : decode b9_isKnown 40 = .ok (.bipush 80, 2) := by decide +kernel
theorem d9_isKnown_42 : decode b9_isKnown 42 = .ok (.bipush 85, 2) := by decide +kernel
theorem d9_isKnown_44 : decode b9_isKnown 44 = .ok (.invokestatic 92, 3) := by decide +kernel
theorem d9_isKnown_47 : decode b9_isKnown 47 = .ok (.ifCond .eq 7, 3) := by decide +kernel
theorem d9_isKnown_50 : decode b9_isKnown 50 = .ok (.iconst 1, 1) := by decide +kernel
theorem d9_isKnown_51 : decode b9_isKnown 51 = .ok (.goto 4, 3) := by decide +kernel
theorem d9_isKnown_54 : decode b9_isKnown 54 = .ok (.iconst 0, 1) := by decide +kernel
theorem d9_isKnown_55 : decode b9_isKnown 55 = .ok (.ireturn, 1) := by decide +kernel
theorem d9_byteAt_0 : decode b9_byteAt 0 = .ok (.aload_n 0, 1) := by decide +kernel
theorem d9_byteAt_1 : decode b9_byteAt 1 = .ok (.getfield 22, 3) := by decide +kernel
theorem d9_byteAt_4 : decode b9_byteAt 4 = .ok (.bipush 60, 2) := by decide +kernel
theorem d9_byteAt_6 : decode b9_byteAt 6 = .ok (.iload_n 1, 1) := by decide +kernel
theorem d9_byteAt_7 : decode b9_byteAt 7 = .ok (.imul, 1) := by decide +kernel
theorem d9_byteAt_8 : decode b9_byteAt 8 = .ok (.iload_n 2, 1) := by decide +kernel
theorem d9_byteAt_9 : decode b9_byteAt 9 = .ok (.iadd, 1) := by decide +kernel
theorem d9_byteAt_10 : decode b9_byteAt 10 = .ok (.iaload, 1) := by decide +kernel
theorem d9_byteAt_11 : decode b9_byteAt 11 = .ok (.ireturn, 1) := by decide +kernel
theorem d9_behind_0 : decode b9_behind 0 = .ok (.aload_n 0, 1) := by decide +kernel
theorem d9_behind_1 : decode b9_behind 1 = .ok (.iload_n 1, 1) := by decide +kernel
theorem d9_behind_2 : decode b9_behind 2 = .ok (.iload_n 2, 1) := by decide +kernel
theorem d9_behind_3 : decode b9_behind 3 = .ok (.invokevirtual 115, 3) := by decide +kernel
theorem d9_behind_6 : decode b9_behind 6 = .ok (.istore_n 3, 1) := by decide +kernel
theorem d9_behind_7 : decode b9_behind 7 = .ok (.iload_n 3, 1) := by decide +kernel
theorem d9_behind_8 : decode b9_behind 8 = .ok (.bipush 9, 2) := by decide +kernel
theorem d9_behind_10 : decode b9_behind 10 = .ok (.if_icmp .ne 30, 3) := by decide +kernel
theorem d9_behind_13 : decode b9_behind 13 = .ok (.iload_n 2, 1) := by decide +kernel
theorem d9_behind_14 : decode b9_behind 14 = .ok (.iconst 1, 1) := by decide +kernel
theorem d9_behind_15 : decode b9_behind 15 = .ok (.iadd, 1) := by decide +kernel
theorem d9_behind_16 : decode b9_behind 16 = .ok (.aload_n 0, 1) := by decide +kernel
theorem d9_behind_17 : decode b9_behind 17 = .ok (.getfield 25, 3) := by decide +kernel
theorem d9_behind_20 : decode b9_behind 20 = .ok (.iload_n 1, 1) := by decide +kernel
theorem d9_behind_21 : decode b9_behind 21 = .ok (.iaload, 1) := by decide +kernel
theorem d9_behind_22 : decode b9_behind 22 = .ok (.if_icmp .ge 16, 3) := by decide +kernel
theorem d9_behind_25 : decode b9_behind 25 = .ok (.iconst 2, 1) := by decide +kernel
theorem d9_behind_26 : decode b9_behind 26 = .ok (.aload_n 0, 1) := by decide +kernel
theorem d9_behind_27 : decode b9_behind 27 = .ok (.iload_n 1, 1) := by decide +kernel
theorem d9_behind_28 : decode b9_behind 28 = .ok (.iload_n 2, 1) := by decide +kernel
theorem d9_behind_29 : decode b9_behind 29 = .ok (.iconst 1, 1) := by decide +kernel
theorem d9_behind_30 : decode b9_behind 30 = .ok (.iadd, 1) := by decide +kernel
theorem d9_behind_31 : decode b9_behind 31 = .ok (.invokevirtual 115, 3) := by decide +kernel
theorem d9_behind_34 : decode b9_behind 34 = .ok (.iadd, 1) := by decide +kernel
theorem d9_behind_35 : decode b9_behind 35 = .ok (.goto 4, 3) := by decide +kernel
theorem d9_behind_38 : decode b9_behind 38 = .ok (.iconst 1, 1) := by decide +kernel
theorem d9_behind_39 : decode b9_behind 39 = .ok (.ireturn, 1) := by decide +kernel
theorem d9_behind_40 : decode b9_behind 40 = .ok (.iload_n 3, 1) := by decide +kernel
theorem d9_behind_41 : decode b9_behind 41 = .ok (.iconst 2, 1) := by decide +kernel
theorem d9_behind_42 : decode b9_behind 42 = .ok (.iconst 4, 1) := by decide +kernel
theorem d9_behind_43 : decode b9_behind 43 = .ok (.invokestatic 92, 3) := by decide +kernel
theorem d9_behind_46 : decode b9_behind 46 = .ok (.ifCond .ne 38, 3) := by decide +kernel
theorem d9_behind_49 : decode b9_behind 49 = .ok (.iload_n 3, 1) := by decide +kernel
theorem d9_behind_50 : decode b9_behind 50 = .ok (.bipush 7, 2) := by decide +kernel
theorem d9_behind_52 : decode b9_behind 52 = .ok (.if_icmp .eq 32, 3) := by decide +kernel
theorem d9_behind_55 : decode b9_behind 55 = .ok (.iload_n 3, 1) := by decide +kernel
theorem d9_behind_56 : decode b9_behind 56 = .ok (.bipush 8, 2) := by decide +kernel
theorem d9_behind_58 : decode b9_behind 58 = .ok (.if_icmp .eq 26, 3) := by decide +kernel
theorem d9_behind_61 : decode b9_behind 61 = .ok (.iload_n 3, 1) := by decide +kernel
theorem d9_behind_62 : decode b9_behind 62 = .ok (.bipush 11, 2) := by decide +kernel
theorem d9_behind_64 : decode b9_behind 64 = .ok (.if_icmp .eq 20, 3) := by decide +kernel
theorem d9_behind_67 : decode b9_behind 67 = .ok (.iload_n 3, 1) := by decide +kernel
theorem d9_behind_68 : decode b9_behind 68 = .ok (.bipush 12, 2) := by decide +kernel
theorem d9_behind_70 : decode b9_behind 70 = .ok (.if_icmp .eq 14, 3) := by decide +kernel
theorem d9_behind_73 : decode b9_behind 73 = .ok (.iload_n 3, 1) := by decide +kernel
theorem d9_behind_74 : decode b9_behind 74 = .ok (.bipush 15, 2) := by decide +kernel
theorem d9_behind_76 : decode b9_behind 76 = .ok (.bipush 28, 2) := by decide +kernel
theorem d9_behind_78 : decode b9_behind 78 = .ok (.invokestatic 92, 3) := by decide +kernel
theorem d9_behind_81 : decode b9_behind 81 = .ok (.ifCond .eq 7, 3) := by decide +kernel
theorem d9_behind_84 : decode b9_behind 84 = .ok (.iconst 1, 1) := by decide +kernel
theorem d9_behind_85 : decode b9_behind 85 = .ok (.goto 4, 3) := by decide +kernel
theorem d9_behind_88 : decode b9_behind 88 = .ok (.iconst 0, 1) := by decide +kernel
theorem d9_behind_89 : decode b9_behind 89 = .ok (.ireturn, 1) := by decide +kernel
theorem d9_seek_0 : decode b9_seek 0 = .ok (.iconst 0, 1) := by decide +kernel
theorem d9_seek_1 : decode b9_seek 1 = .ok (.istore 4, 2) := by decide +kernel
theorem d9_seek_3 : decode b9_seek 3 = .ok (.iload_n 2, 1) := by decide +kernel
theorem d9_seek_4 : decode b9_seek 4 = .ok (.istore 5, 2) := by decide +kernel
theorem d9_seek_6 : decode b9_seek 6 = .ok (.iload 4, 2) := by decide +kernel
theorem d9_seek_8 : decode b9_seek 8 = .ok (.ifCond .gt 30, 3) := by decide +kernel
theorem d9_seek_11 : decode b9_seek 11 = .ok (.aload_n 0, 1) := by decide +kernel
theorem d9_seek_12 : decode b9_seek 12 = .ok (.iload_n 1, 1) := by decide +kernel
theorem d9_seek_13 : decode b9_seek 13 = .ok (.iload 5, 2) := by decide +kernel
theorem d9_seek_15 : decode b9_seek 15 = .ok (.invokevirtual 115, 3) := by decide +kernel
theorem d9_seek_18 : decode b9_seek 18 = .ok (.bipush 6, 2) := by decide +kernel
theorem d9_seek_20 : decode b9_seek 20 = .ok (.if_icmp .eq 68, 3) := by decide +kernel
theorem d9_seek_23 : decode b9_seek 23 = .ok (.iload_n 3, 1) := by decide +kernel
theorem d9_seek_24 : decode b9_seek 24 = .ok (.ifCond .eq 14, 3) := by decide +kernel
theorem d9_seek_27 : decode b9_seek 27 = .ok (.aload_n 0, 1) := by decide +kernel
theorem d9_seek_28 : decode b9_seek 28 = .ok (.iload_n 1, 1) := by decide +kernel
theorem d9_seek_29 : decode b9_seek 29 = .ok (.iload 5, 2) := by decide +kernel
theorem d9_seek_31 : decode b9_seek 31 = .ok (.invokevirtual 115, 3) := by decide +kernel
theorem d9_seek_34 : decode b9_seek 34 = .ok (.iconst 5, 1) := by decide +kernel
theorem d9_seek_35 : decode b9_seek 35 = .ok (.if_icmp .eq 53, 3) := by decide +kernel
theorem d9_seek_38 : decode b9_seek 38 = .ok (.aload_n 0, 1) := by decide +kernel
theorem d9_seek_39 : decode b9_seek 39 = .ok (.iload_n 1, 1) := by decide +kernel
theorem d9_seek_40 : decode b9_seek 40 = .ok (.iload 5, 2) := by decide +kernel
theorem d9_seek_42 : decode b9_seek 42 = .ok (.invokevirtual 115, 3) := by decide +kernel
theorem d9_seek_45 : decode b9_seek 45 = .ok (.iconst 2, 1) := by decide +kernel
theorem d9_seek_46 : decode b9_seek 46 = .ok (.iconst 4, 1) := by decide +kernel
theorem d9_seek_47 : decode b9_seek 47 = .ok (.invokestatic 92, 3) := by decide +kernel
theorem d9_seek_50 : decode b9_seek 50 = .ok (.ifCond .eq 6, 3) := by decide +kernel
theorem d9_seek_53 : decode b9_seek 53 = .ok (.iinc 4 1, 3) := by decide +kernel
theorem d9_seek_56 : decode b9_seek 56 = .ok (.aload_n 0, 1) := by decide +kernel
theorem d9_seek_57 : decode b9_seek 57 = .ok (.iload_n 1, 1) := by decide +kernel
theorem d9_seek_58 : decode b9_seek 58 = .ok (.iload 5, 2) := by decide +kernel
theorem d9_seek_60 : decode b9_seek 60 = .ok (.invokevirtual 115, 3) := by decide +kernel
theorem d9_seek_63 : decode b9_seek 63 = .ok (.bipush 6, 2) := by decide +kernel
theorem d9_seek_65 : decode b9_seek 65 = .ok (.if_icmp .ne 6, 3) := by decide +kernel
theorem d9_seek_68 : decode b9_seek 68 = .ok (.iinc 4 (-1), 3) := by decide +kernel
theorem d9_seek_71 : decode b9_seek 71 = .ok (.iload 5, 2) := by decide +kernel
theorem d9_seek_73 : decode b9_seek 73 = .ok (.iconst 1, 1) := by decide +kernel
theorem d9_seek_74 : decode b9_seek 74 = .ok (.aload_n 0, 1) := by decide +kernel
theorem d9_seek_75 : decode b9_seek 75 = .ok (.iload_n 1, 1) := by decide +kernel
theorem d9_seek_76 : decode b9_seek 76 = .ok (.iload 5, 2) := by decide +kernel
theorem d9_seek_78 : decode b9_seek 78 = .ok (.invokevirtual 119, 3) := by decide +kernel
theorem d9_seek_81 : decode b9_seek 81 = .ok (.iadd, 1) := by decide +kernel
theorem d9_seek_82 : decode b9_seek 82 = .ok (.iadd, 1) := by decide +kernel
theorem d9_seek_83 : decode b9_seek 83 = .ok (.istore 5, 2) := by decide +kernel
theorem d9_seek_85 : decode b9_seek 85 = .ok (.goto (-79), 3) := by decide +kernel
theorem d9_seek_88 : decode b9_seek 88 = .ok (.iload 5, 2) := by decide +kernel
theorem d9_seek_90 : decode b9_seek 90 = .ok (.ireturn, 1) := by decide +kernel
theorem d9_put_0 : decode b9_put 0 = .ok (.aload_n 0, 1) := by decide +kernel
theorem d9_put_1 : decode b9_put 1 = .ok (.getfield 122, 3) := by decide +kernel
theorem d9_put_4 : decode b9_put 4 = .ok (.bipush 16, 2) := by decide +kernel
theorem d9_put_6 : decode b9_put 6 = .ok (.if_icmp .ne 11, 3) := by decide +kernel
theorem d9_put_9 : decode b9_put 9 = .ok (.aload_n 0, 1) := by decide +kernel
theorem d9_put_10 : decode b9_put 10 = .ok (.iconst 1, 1) := by decide +kernel
theorem d9_put_11 : decode b9_put 11 = .ok (.putfield 125, 3) := by decide +kernel
theorem d9_put_14 : decode b9_put 14 = .ok (.goto 23, 3) := by decide +kernel
theorem d9_put_17 : decode b9_put 17 = .ok (.aload_n 0, 1) := by decide +kernel
theorem d9_put_18 : decode b9_put 18 = .ok (.getfield 41, 3) := by decide +kernel
theorem d9_put_21 : decode b9_put 21 = .ok (.aload_n 0, 1) := by decide +kernel
theorem d9_put_22 : decode b9_put 22 = .ok (.getfield 122, 3) := by decide +kernel
theorem d9_put_25 : decode b9_put 25 = .ok (.iload_n 1, 1) := by decide +kernel
theorem d9_put_26 : decode b9_put 26 = .ok (.iastore, 1) := by decide +kernel
theorem d9_put_27 : decode b9_put 27 = .ok (.aload_n 0, 1) := by decide +kernel
theorem d9_put_28 : decode b9_put 28 = .ok (.dup, 1) := by decide +kernel
theorem d9_put_29 : decode b9_put 29 = .ok (.getfield 122, 3) := by decide +kernel
theorem d9_put_32 : decode b9_put 32 = .ok (.iconst 1, 1) := by decide +kernel
theorem d9_put_33 : decode b9_put 33 = .ok (.iadd, 1) := by decide +kernel
theorem d9_put_34 : decode b9_put 34 = .ok (.putfield 122, 3) := by decide +kernel
theorem d9_put_37 : decode b9_put 37 = .ok (.return_, 1) := by decide +kernel
theorem d9_takeAny_0 : decode b9_takeAny 0 = .ok (.aload_n 0, 1) := by decide +kernel
theorem d9_takeAny_1 : decode b9_takeAny 1 = .ok (.getfield 122, 3) := by decide +kernel
theorem d9_takeAny_4 : decode b9_takeAny 4 = .ok (.aload_n 0, 1) := by decide +kernel
theorem d9_takeAny_5 : decode b9_takeAny 5 = .ok (.getfield 50, 3) := by decide +kernel
theorem d9_takeAny_8 : decode b9_takeAny 8 = .ok (.aload_n 0, 1) := by decide +kernel
theorem d9_takeAny_9 : decode b9_takeAny 9 = .ok (.getfield 128, 3) := by decide +kernel
theorem d9_takeAny_12 : decode b9_takeAny 12 = .ok (.iconst 1, 1) := by decide +kernel
theorem d9_takeAny_13 : decode b9_takeAny 13 = .ok (.isub, 1) := by decide +kernel
theorem d9_takeAny_14 : decode b9_takeAny 14 = .ok (.iaload, 1) := by decide +kernel
theorem d9_takeAny_15 : decode b9_takeAny 15 = .ok (.if_icmp .le 23, 3) := by decide +kernel
theorem d9_takeAny_18 : decode b9_takeAny 18 = .ok (.aload_n 0, 1) := by decide +kernel
theorem d9_takeAny_19 : decode b9_takeAny 19 = .ok (.dup, 1) := by decide +kernel
theorem d9_takeAny_20 : decode b9_takeAny 20 = .ok (.getfield 122, 3) := by decide +kernel
theorem d9_takeAny_23 : decode b9_takeAny 23 = .ok (.iconst 1, 1) := by decide +kernel
theorem d9_takeAny_24 : decode b9_takeAny 24 = .ok (.isub, 1) := by decide +kernel
theorem d9_takeAny_25 : decode b9_takeAny 25 = .ok (.putfield 122, 3) := by decide +kernel
theorem d9_takeAny_28 : decode b9_takeAny 28 = .ok (.aload_n 0, 1) := by decide +kernel
theorem d9_takeAny_29 : decode b9_takeAny 29 = .ok (.getfield 41, 3) := by decide +kernel
theorem d9_takeAny_32 : decode b9_takeAny 32 = .ok (.aload_n 0, 1) := by decide +kernel
theorem d9_takeAny_33 : decode b9_takeAny 33 = .ok (.getfield 122, 3) := by decide +kernel
theorem d9_takeAny_36 : decode b9_takeAny 36 = .ok (.iaload, 1) := by decide +kernel
theorem d9_takeAny_37 : decode b9_takeAny 37 = .ok (.ireturn, 1) := by decide +kernel
theorem d9_takeAny_38 : decode b9_takeAny 38 = .ok (.aload_n 0, 1) := by decide +kernel
theorem d9_takeAny_39 : decode b9_takeAny 39 = .ok (.getfield 53, 3) := by decide +kernel
theorem d9_takeAny_42 : decode b9_takeAny 42 = .ok (.aload_n 0, 1) := by decide +kernel
theorem d9_takeAny_43 : decode b9_takeAny 43 = .ok (.getfield 128, 3) := by decide +kernel
theorem d9_takeAny_46 : decode b9_takeAny 46 = .ok (.iconst 1, 1) := by decide +kernel
theorem d9_takeAny_47 : decode b9_takeAny 47 = .ok (.isub, 1) := by decide +kernel
theorem d9_takeAny_48 : decode b9_takeAny 48 = .ok (.baload, 1) := by decide +kernel
theorem d9_takeAny_49 : decode b9_takeAny 49 = .ok (.ifCond .ne 8, 3) := by decide +kernel
theorem d9_takeAny_52 : decode b9_takeAny 52 = .ok (.aload_n 0, 1) := by decide +kernel
theorem d9_takeAny_53 : decode b9_takeAny 53 = .ok (.iconst 1, 1) := by decide +kernel
theorem d9_takeAny_54 : decode b9_takeAny 54 = .ok (.putfield 125, 3) := by decide +kernel
theorem d9_takeAny_57 : decode b9_takeAny 57 = .ok (.iconst 4, 1) := by decide +kernel
theorem d9_takeAny_58 : decode b9_takeAny 58 = .ok (.ireturn, 1) := by decide +kernel
theorem d9_take_0 : decode b9_take 0 = .ok (.aload_n 0, 1) := by decide +kernel
theorem d9_take_1 : decode b9_take 1 = .ok (.invokevirtual 131, 3) := by decide +kernel
theorem d9_take_4 : decode b9_take 4 = .ok (.istore_n 2, 1) := by decide +kernel
theorem d9_take_5 : decode b9_take 5 = .ok (.iload_n 2, 1) := by decide +kernel
theorem d9_take_6 : decode b9_take 6 = .ok (.iload_n 1, 1) := by decide +kernel
theorem d9_take_7 : decode b9_take 7 = .ok (.if_icmp .eq 13, 3) := by decide +kernel
theorem d9_take_10 : decode b9_take 10 = .ok (.iload_n 2, 1) := by decide +kernel
theorem d9_take_11 : decode b9_take 11 = .ok (.iconst 4, 1) := by decide +kernel
theorem d9_take_12 : decode b9_take 12 = .ok (.if_icmp .eq 8, 3) := by decide +kernel
theorem d9_take_15 : decode b9_take 15 = .ok (.aload_n 0, 1) := by decide +kernel
theorem d9_take_16 : decode b9_take 16 = .ok (.iconst 1, 1) := by decide +kernel
theorem d9_take_17 : decode b9_take 17 = .ok (.putfield 125, 3) := by decide +kernel
theorem d9_take_20 : decode b9_take 20 = .ok (.return_, 1) := by decide +kernel
theorem d9_takeIf_0 : decode b9_takeIf 0 = .ok (.iload_n 1, 1) := by decide +kernel
theorem d9_takeIf_1 : decode b9_takeIf 1 = .ok (.ifCond .eq 8, 3) := by decide +kernel
theorem d9_takeIf_4 : decode b9_takeIf 4 = .ok (.aload_n 0, 1) := by decide +kernel
theorem d9_takeIf_5 : decode b9_takeIf 5 = .ok (.iload_n 1, 1) := by decide +kernel
theorem d9_takeIf_6 : decode b9_takeIf 6 = .ok (.invokevirtual 135, 3) := by decide +kernel
theorem d9_takeIf_9 : decode b9_takeIf 9 = .ok (.return_, 1) := by decide +kernel
theorem d9_putIf_0 : decode b9_putIf 0 = .ok (.iload_n 1, 1) := by decide +kernel
theorem d9_putIf_1 : decode b9_putIf 1 = .ok (.ifCond .eq 8, 3) := by decide +kernel
theorem d9_putIf_4 : decode b9_putIf 4 = .ok (.aload_n 0, 1) := by decide +kernel
theorem d9_putIf_5 : decode b9_putIf 5 = .ok (.iload_n 1, 1) := by decide +kernel
theorem d9_putIf_6 : decode b9_putIf 6 = .ok (.invokevirtual 139, 3) := by decide +kernel
theorem d9_putIf_9 : decode b9_putIf 9 = .ok (.return_, 1) := by decide +kernel
theorem d9_begin_0 : decode b9_begin 0 = .ok (.iload_n 1, 1) := by decide +kernel
theorem d9_begin_1 : decode b9_begin 1 = .ok (.iconst 4, 1) := by decide +kernel
theorem d9_begin_2 : decode b9_begin 2 = .ok (.if_icmp .ne 8, 3) := by decide +kernel
theorem d9_begin_5 : decode b9_begin 5 = .ok (.aload_n 0, 1) := by decide +kernel
theorem d9_begin_6 : decode b9_begin 6 = .ok (.iconst 1, 1) := by decide +kernel
theorem d9_begin_7 : decode b9_begin 7 = .ok (.invokevirtual 135, 3) := by decide +kernel
theorem d9_begin_10 : decode b9_begin 10 = .ok (.iload_n 2, 1) := by decide +kernel
theorem d9_begin_11 : decode b9_begin 11 = .ok (.iconst 3, 1) := by decide +kernel
theorem d9_begin_12 : decode b9_begin 12 = .ok (.if_icmp .gt 12, 3) := by decide +kernel
theorem d9_begin_15 : decode b9_begin 15 = .ok (.aload_n 0, 1) := by decide +kernel
theorem d9_begin_16 : decode b9_begin 16 = .ok (.getfield 128, 3) := by decide +kernel
theorem d9_begin_19 : decode b9_begin 19 = .ok (.bipush 8, 2) := by decide +kernel
theorem d9_begin_21 : decode b9_begin 21 = .ok (.if_icmp .ne 8, 3) := by decide +kernel
theorem d9_begin_24 : decode b9_begin 24 = .ok (.aload_n 0, 1) := by decide +kernel
theorem d9_begin_25 : decode b9_begin 25 = .ok (.iconst 1, 1) := by decide +kernel
theorem d9_begin_26 : decode b9_begin 26 = .ok (.putfield 125, 3) := by decide +kernel
theorem d9_begin_29 : decode b9_begin 29 = .ok (.aload_n 0, 1) := by decide +kernel
theorem d9_begin_30 : decode b9_begin 30 = .ok (.getfield 44, 3) := by decide +kernel
theorem d9_begin_33 : decode b9_begin 33 = .ok (.aload_n 0, 1) := by decide +kernel
theorem d9_begin_34 : decode b9_begin 34 = .ok (.getfield 128, 3) := by decide +kernel
theorem d9_begin_37 : decode b9_begin 37 = .ok (.iload_n 1, 1) := by decide +kernel
theorem d9_begin_38 : decode b9_begin 38 = .ok (.iastore, 1) := by decide +kernel
theorem d9_begin_39 : decode b9_begin 39 = .ok (.aload_n 0, 1) := by decide +kernel
theorem d9_begin_40 : decode b9_begin 40 = .ok (.getfield 47, 3) := by decide +kernel
theorem d9_begin_43 : decode b9_begin 43 = .ok (.aload_n 0, 1) := by decide +kernel
theorem d9_begin_44 : decode b9_begin 44 = .ok (.getfield 128, 3) := by decide +kernel
theorem d9_begin_47 : decode b9_begin 47 = .ok (.iload_n 2, 1) := by decide +kernel
theorem d9_begin_48 : decode b9_begin 48 = .ok (.iastore, 1) := by decide +kernel
theorem d9_begin_49 : decode b9_begin 49 = .ok (.aload_n 0, 1) := by decide +kernel
theorem d9_begin_50 : decode b9_begin 50 = .ok (.getfield 50, 3) := by decide +kernel
theorem d9_begin_53 : decode b9_begin 53 = .ok (.aload_n 0, 1) := by decide +kernel
theorem d9_begin_54 : decode b9_begin 54 = .ok (.getfield 128, 3) := by decide +kernel
theorem d9_begin_57 : decode b9_begin 57 = .ok (.aload_n 0, 1) := by decide +kernel
theorem d9_begin_58 : decode b9_begin 58 = .ok (.getfield 122, 3) := by decide +kernel
theorem d9_begin_61 : decode b9_begin 61 = .ok (.iastore, 1) := by decide +kernel
theorem d9_begin_62 : decode b9_begin 62 = .ok (.aload_n 0, 1) := by decide +kernel
theorem d9_begin_63 : decode b9_begin 63 = .ok (.getfield 53, 3) := by decide +kernel
theorem d9_begin_66 : decode b9_begin 66 = .ok (.aload_n 0, 1) := by decide +kernel
theorem d9_begin_67 : decode b9_begin 67 = .ok (.getfield 128, 3) := by decide +kernel
theorem d9_begin_70 : decode b9_begin 70 = .ok (.iconst 0, 1) := by decide +kernel
theorem d9_begin_71 : decode b9_begin 71 = .ok (.bastore, 1) := by decide +kernel
theorem d9_begin_72 : decode b9_begin 72 = .ok (.aload_n 0, 1) := by decide +kernel
theorem d9_begin_73 : decode b9_begin 73 = .ok (.getfield 57, 3) := by decide +kernel
theorem d9_begin_76 : decode b9_begin 76 = .ok (.aload_n 0, 1) := by decide +kernel
theorem d9_begin_77 : decode b9_begin 77 = .ok (.getfield 128, 3) := by decide +kernel
theorem d9_begin_80 : decode b9_begin 80 = .ok (.iconst 0, 1) := by decide +kernel
theorem d9_begin_81 : decode b9_begin 81 = .ok (.bastore, 1) := by decide +kernel
theorem d9_begin_82 : decode b9_begin 82 = .ok (.aload_n 0, 1) := by decide +kernel
theorem d9_begin_83 : decode b9_begin 83 = .ok (.dup, 1) := by decide +kernel
theorem d9_begin_84 : decode b9_begin 84 = .ok (.getfield 128, 3) := by decide +kernel
theorem d9_begin_87 : decode b9_begin 87 = .ok (.iconst 1, 1) := by decide +kernel
theorem d9_begin_88 : decode b9_begin 88 = .ok (.iadd, 1) := by decide +kernel
theorem d9_begin_89 : decode b9_begin 89 = .ok (.putfield 128, 3) := by decide +kernel
theorem d9_begin_92 : decode b9_begin 92 = .ok (.return_, 1) := by decide +kernel
theorem d9_die_0 : decode b9_die 0 = .ok (.aload_n 0, 1) := by decide +kernel
theorem d9_die_1 : decode b9_die 1 = .ok (.aload_n 0, 1) := by decide +kernel
theorem d9_die_2 : decode b9_die 2 = .ok (.getfield 50, 3) := by decide +kernel
theorem d9_die_5 : decode b9_die 5 = .ok (.aload_n 0, 1) := by decide +kernel
theorem d9_die_6 : decode b9_die 6 = .ok (.getfield 128, 3) := by decide +kernel
theorem d9_die_9 : decode b9_die 9 = .ok (.iconst 1, 1) := by decide +kernel
theorem d9_die_10 : decode b9_die 10 = .ok (.isub, 1) := by decide +kernel
theorem d9_die_11 : decode b9_die 11 = .ok (.iaload, 1) := by decide +kernel
theorem d9_die_12 : decode b9_die 12 = .ok (.putfield 122, 3) := by decide +kernel
theorem d9_die_15 : decode b9_die 15 = .ok (.aload_n 0, 1) := by decide +kernel
theorem d9_die_16 : decode b9_die 16 = .ok (.getfield 53, 3) := by decide +kernel
theorem d9_die_19 : decode b9_die 19 = .ok (.aload_n 0, 1) := by decide +kernel
theorem d9_die_20 : decode b9_die 20 = .ok (.getfield 128, 3) := by decide +kernel
theorem d9_die_23 : decode b9_die 23 = .ok (.iconst 1, 1) := by decide +kernel
theorem d9_die_24 : decode b9_die 24 = .ok (.isub, 1) := by decide +kernel
theorem d9_die_25 : decode b9_die 25 = .ok (.iconst 1, 1) := by decide +kernel
theorem d9_die_26 : decode b9_die 26 = .ok (.bastore, 1) := by decide +kernel
theorem d9_die_27 : decode b9_die 27 = .ok (.return_, 1) := by decide +kernel
theorem d9_close_0 : decode b9_close 0 = .ok (.aload_n 0, 1) := by decide +kernel
theorem d9_close_1 : decode b9_close 1 = .ok (.getfield 128, 3) := by decide +kernel
theorem d9_close_4 : decode b9_close 4 = .ok (.iconst 1, 1) := by decide +kernel
theorem d9_close_5 : decode b9_close 5 = .ok (.isub, 1) := by decide +kernel
theorem d9_close_6 : decode b9_close 6 = .ok (.istore_n 2, 1) := by decide +kernel
theorem d9_close_7 : decode b9_close 7 = .ok (.aload_n 0, 1) := by decide +kernel
theorem d9_close_8 : decode b9_close 8 = .ok (.aload_n 0, 1) := by decide +kernel
theorem d9_close_9 : decode b9_close 9 = .ok (.getfield 47, 3) := by decide +kernel
theorem d9_close_12 : decode b9_close 12 = .ok (.iload_n 2, 1) := by decide +kernel
theorem d9_close_13 : decode b9_close 13 = .ok (.iaload, 1) := by decide +kernel
theorem d9_close_14 : decode b9_close 14 = .ok (.invokevirtual 142, 3) := by decide +kernel
theorem d9_close_17 : decode b9_close 17 = .ok (.aload_n 0, 1) := by decide +kernel
theorem d9_close_18 : decode b9_close 18 = .ok (.getfield 122, 3) := by decide +kernel
theorem d9_close_21 : decode b9_close 21 = .ok (.aload_n 0, 1) := by decide +kernel
theorem d9_close_22 : decode b9_close 22 = .ok (.getfield 50, 3) := by decide +kernel
theorem d9_close_25 : decode b9_close 25 = .ok (.iload_n 2, 1) := by decide +kernel
theorem d9_close_26 : decode b9_close 26 = .ok (.iaload, 1) := by decide +kernel
theorem d9_close_27 : decode b9_close 27 = .ok (.if_icmp .eq 8, 3) := by decide +kernel
theorem d9_close_30 : decode b9_close 30 = .ok (.aload_n 0, 1) := by decide +kernel
theorem d9_close_31 : decode b9_close 31 = .ok (.iconst 1, 1) := by decide +kernel
theorem d9_close_32 : decode b9_close 32 = .ok (.putfield 125, 3) := by decide +kernel
theorem d9_close_35 : decode b9_close 35 = .ok (.iload_n 1, 1) := by decide +kernel
theorem d9_close_36 : decode b9_close 36 = .ok (.iconst 5, 1) := by decide +kernel
theorem d9_close_37 : decode b9_close 37 = .ok (.if_icmp .ne 42, 3) := by decide +kernel
theorem d9_close_40 : decode b9_close 40 = .ok (.aload_n 0, 1) := by decide +kernel
theorem d9_close_41 : decode b9_close 41 = .ok (.getfield 44, 3) := by decide +kernel
theorem d9_close_44 : decode b9_close 44 = .ok (.iload_n 2, 1) := by decide +kernel
theorem d9_close_45 : decode b9_close 45 = .ok (.iaload, 1) := by decide +kernel
theorem d9_close_46 : decode b9_close 46 = .ok (.iconst 4, 1) := by decide +kernel
theorem d9_close_47 : decode b9_close 47 = .ok (.if_icmp .ne 12, 3) := by decide +kernel
theorem d9_close_50 : decode b9_close 50 = .ok (.aload_n 0, 1) := by decide +kernel
theorem d9_close_51 : decode b9_close 51 = .ok (.getfield 57, 3) := by decide +kernel
theorem d9_close_54 : decode b9_close 54 = .ok (.iload_n 2, 1) := by decide +kernel
theorem d9_close_55 : decode b9_close 55 = .ok (.baload, 1) := by decide +kernel
theorem d9_close_56 : decode b9_close 56 = .ok (.ifCond .eq 8, 3) := by decide +kernel
theorem d9_close_59 : decode b9_close 59 = .ok (.aload_n 0, 1) := by decide +kernel
theorem d9_close_60 : decode b9_close 60 = .ok (.iconst 1, 1) := by decide +kernel
theorem d9_close_61 : decode b9_close 61 = .ok (.putfield 125, 3) := by decide +kernel
theorem d9_close_64 : decode b9_close 64 = .ok (.aload_n 0, 1) := by decide +kernel
theorem d9_close_65 : decode b9_close 65 = .ok (.getfield 57, 3) := by decide +kernel
theorem d9_close_68 : decode b9_close 68 = .ok (.iload_n 2, 1) := by decide +kernel
theorem d9_close_69 : decode b9_close 69 = .ok (.iconst 1, 1) := by decide +kernel
theorem d9_close_70 : decode b9_close 70 = .ok (.bastore, 1) := by decide +kernel
theorem d9_close_71 : decode b9_close 71 = .ok (.aload_n 0, 1) := by decide +kernel
theorem d9_close_72 : decode b9_close 72 = .ok (.getfield 53, 3) := by decide +kernel
theorem d9_close_75 : decode b9_close 75 = .ok (.iload_n 2, 1) := by decide +kernel
theorem d9_close_76 : decode b9_close 76 = .ok (.iconst 0, 1) := by decide +kernel
theorem d9_close_77 : decode b9_close 77 = .ok (.bastore, 1) := by decide +kernel
theorem d9_close_78 : decode b9_close 78 = .ok (.return_, 1) := by decide +kernel
theorem d9_close_79 : decode b9_close 79 = .ok (.aload_n 0, 1) := by decide +kernel
theorem d9_close_80 : decode b9_close 80 = .ok (.getfield 44, 3) := by decide +kernel
theorem d9_close_83 : decode b9_close 83 = .ok (.iload_n 2, 1) := by decide +kernel
theorem d9_close_84 : decode b9_close 84 = .ok (.iaload, 1) := by decide +kernel
theorem d9_close_85 : decode b9_close 85 = .ok (.iconst 4, 1) := by decide +kernel
theorem d9_close_86 : decode b9_close 86 = .ok (.if_icmp .ne 26, 3) := by decide +kernel
theorem d9_close_89 : decode b9_close 89 = .ok (.aload_n 0, 1) := by decide +kernel
theorem d9_close_90 : decode b9_close 90 = .ok (.getfield 47, 3) := by decide +kernel
theorem d9_close_93 : decode b9_close 93 = .ok (.iload_n 2, 1) := by decide +kernel
theorem d9_close_94 : decode b9_close 94 = .ok (.iaload, 1) := by decide +kernel
theorem d9_close_95 : decode b9_close 95 = .ok (.ifCond .eq 17, 3) := by decide +kernel
theorem d9_close_98 : decode b9_close 98 = .ok (.aload_n 0, 1) := by decide +kernel
theorem d9_close_99 : decode b9_close 99 = .ok (.getfield 57, 3) := by decide +kernel
theorem d9_close_102 : decode b9_close 102 = .ok (.iload_n 2, 1) := by decide +kernel
theorem d9_close_103 : decode b9_close 103 = .ok (.baload, 1) := by decide +kernel
theorem d9_close_104 : decode b9_close 104 = .ok (.ifCond .ne 8, 3) := by decide +kernel
theorem d9_close_107 : decode b9_close 107 = .ok (.aload_n 0, 1) := by decide +kernel
theorem d9_close_108 : decode b9_close 108 = .ok (.iconst 1, 1) := by decide +kernel
theorem d9_close_109 : decode b9_close 109 = .ok (.putfield 125, 3) := by decide +kernel
theorem d9_close_112 : decode b9_close 112 = .ok (.aload_n 0, 1) := by decide +kernel
theorem d9_close_113 : decode b9_close 113 = .ok (.dup, 1) := by decide +kernel
theorem d9_close_114 : decode b9_close 114 = .ok (.getfield 128, 3) := by decide +kernel
theorem d9_close_117 : decode b9_close 117 = .ok (.iconst 1, 1) := by decide +kernel
theorem d9_close_118 : decode b9_close 118 = .ok (.isub, 1) := by decide +kernel
theorem d9_close_119 : decode b9_close 119 = .ok (.putfield 128, 3) := by decide +kernel
theorem d9_close_122 : decode b9_close 122 = .ok (.aload_n 0, 1) := by decide +kernel
theorem d9_close_123 : decode b9_close 123 = .ok (.getfield 128, 3) := by decide +kernel
theorem d9_close_126 : decode b9_close 126 = .ok (.ifCond .le 13, 3) := by decide +kernel
theorem d9_close_129 : decode b9_close 129 = .ok (.aload_n 0, 1) := by decide +kernel
theorem d9_close_130 : decode b9_close 130 = .ok (.aload_n 0, 1) := by decide +kernel
theorem d9_close_131 : decode b9_close 131 = .ok (.getfield 47, 3) := by decide +kernel
theorem d9_close_134 : decode b9_close 134 = .ok (.iload_n 2, 1) := by decide +kernel
theorem d9_close_135 : decode b9_close 135 = .ok (.iaload, 1) := by decide +kernel
theorem d9_close_136 : decode b9_close 136 = .ok (.invokevirtual 145, 3) := by decide +kernel
theorem d9_close_139 : decode b9_close 139 = .ok (.return_, 1) := by decide +kernel
theorem d9_label_0 : decode b9_label 0 = .ok (.iload_n 1, 1) := by decide +kernel
theorem d9_label_1 : decode b9_label 1 = .ok (.aload_n 0, 1) := by decide +kernel
theorem d9_label_2 : decode b9_label 2 = .ok (.getfield 128, 3) := by decide +kernel
theorem d9_label_5 : decode b9_label 5 = .ok (.if_icmp .lt 10, 3) := by decide +kernel
theorem d9_label_8 : decode b9_label 8 = .ok (.aload_n 0, 1) := by decide +kernel
theorem d9_label_9 : decode b9_label 9 = .ok (.iconst 1, 1) := by decide +kernel
theorem d9_label_10 : decode b9_label 10 = .ok (.putfield 125, 3) := by decide +kernel
theorem d9_label_13 : decode b9_label 13 = .ok (.iconst 0, 1) := by decide +kernel
theorem d9_label_14 : decode b9_label 14 = .ok (.ireturn, 1) := by decide +kernel
theorem d9_label_15 : decode b9_label 15 = .ok (.aload_n 0, 1) := by decide +kernel
theorem d9_label_16 : decode b9_label 16 = .ok (.getfield 128, 3) := by decide +kernel
theorem d9_label_19 : decode b9_label 19 = .ok (.iconst 1, 1) := by decide +kernel
theorem d9_label_20 : decode b9_label 20 = .ok (.isub, 1) := by decide +kernel
theorem d9_label_21 : decode b9_label 21 = .ok (.iload_n 1, 1) := by decide +kernel
theorem d9_label_22 : decode b9_label 22 = .ok (.isub, 1) := by decide +kernel
theorem d9_label_23 : decode b9_label 23 = .ok (.istore_n 2, 1) := by decide +kernel
theorem d9_label_24 : decode b9_label 24 = .ok (.aload_n 0, 1) := by decide +kernel
theorem d9_label_25 : decode b9_label 25 = .ok (.getfield 44, 3) := by decide +kernel
theorem d9_label_28 : decode b9_label 28 = .ok (.iload_n 2, 1) := by decide +kernel
theorem d9_label_29 : decode b9_label 29 = .ok (.iaload, 1) := by decide +kernel
theorem d9_label_30 : decode b9_label 30 = .ok (.iconst 3, 1) := by decide +kernel
theorem d9_label_31 : decode b9_label 31 = .ok (.if_icmp .ne 7, 3) := by decide +kernel
theorem d9_label_34 : decode b9_label 34 = .ok (.iconst 0, 1) := by decide +kernel
theorem d9_label_35 : decode b9_label 35 = .ok (.goto 9, 3) := by decide +kernel
theorem d9_label_38 : decode b9_label 38 = .ok (.aload_n 0, 1) := by decide +kernel
theorem d9_label_39 : decode b9_label 39 = .ok (.getfield 47, 3) := by decide +kernel
theorem d9_label_42 : decode b9_label 42 = .ok (.iload_n 2, 1) := by decide +kernel
theorem d9_label_43 : decode b9_label 43 = .ok (.iaload, 1) := by decide +kernel
theorem d9_label_44 : decode b9_label 44 = .ok (.ireturn, 1) := by decide +kernel
theorem d9_checkJump_0 : decode b9_checkJump 0 = .ok (.iload_n 3, 1) := by decide +kernel
theorem d9_checkJump_1 : decode b9_checkJump 1 = .ok (.bipush 10, 2) := by decide +kernel
theorem d9_checkJump_3 : decode b9_checkJump 3 = .ok (.if_icmp .ne 16, 3) := by decide +kernel
theorem d9_checkJump_6 : decode b9_checkJump 6 = .ok (.aload_n 0, 1) := by decide +kernel
theorem d9_checkJump_7 : decode b9_checkJump 7 = .ok (.aload_n 0, 1) := by decide +kernel
theorem d9_checkJump_8 : decode b9_checkJump 8 = .ok (.getfield 47, 3) := by decide +kernel
theorem d9_checkJump_11 : decode b9_checkJump 11 = .ok (.iconst 0, 1) := by decide +kernel
theorem d9_checkJump_12 : decode b9_checkJump 12 = .ok (.iaload, 1) := by decide +kernel
theorem d9_checkJump_13 : decode b9_checkJump 13 = .ok (.invokevirtual 142, 3) := by decide +kernel
theorem d9_checkJump_16 : decode b9_checkJump 16 = .ok (.goto 132, 3) := by decide +kernel
theorem d9_checkJump_19 : decode b9_checkJump 19 = .ok (.iload_n 3, 1) := by decide +kernel
theorem d9_checkJump_20 : decode b9_checkJump 20 = .ok (.bipush 9, 2) := by decide +kernel
theorem d9_checkJump_22 : decode b9_checkJump 22 = .ok (.if_icmp .ne 82, 3) := by decide +kernel
theorem d9_checkJump_25 : decode b9_checkJump 25 = .ok (.aload_n 0, 1) := by decide +kernel
theorem d9_checkJump_26 : decode b9_checkJump 26 = .ok (.iconst 1, 1) := by decide +kernel
theorem d9_checkJump_27 : decode b9_checkJump 27 = .ok (.invokevirtual 135, 3) := by decide +kernel
theorem d9_checkJump_30 : decode b9_checkJump 30 = .ok (.aload_n 0, 1) := by decide +kernel
theorem d9_checkJump_31 : decode b9_checkJump 31 = .ok (.iload_n 1, 1) := by decide +kernel
theorem d9_checkJump_32 : decode b9_checkJump 32 = .ok (.iload_n 2, 1) := by decide +kernel
theorem d9_checkJump_33 : decode b9_checkJump 33 = .ok (.iconst 1, 1) := by decide +kernel
theorem d9_checkJump_34 : decode b9_checkJump 34 = .ok (.iadd, 1) := by decide +kernel
theorem d9_checkJump_35 : decode b9_checkJump 35 = .ok (.invokevirtual 115, 3) := by decide +kernel
theorem d9_checkJump_38 : decode b9_checkJump 38 = .ok (.istore 4, 2) := by decide +kernel
theorem d9_checkJump_40 : decode b9_checkJump 40 = .ok (.aload_n 0, 1) := by decide +kernel
theorem d9_checkJump_41 : decode b9_checkJump 41 = .ok (.aload_n 0, 1) := by decide +kernel
theorem d9_checkJump_42 : decode b9_checkJump 42 = .ok (.iload_n 1, 1) := by decide +kernel
theorem d9_checkJump_43 : decode b9_checkJump 43 = .ok (.iload_n 2, 1) := by decide +kernel
theorem d9_checkJump_44 : decode b9_checkJump 44 = .ok (.iconst 2, 1) := by decide +kernel
theorem d9_checkJump_45 : decode b9_checkJump 45 = .ok (.iadd, 1) := by decide +kernel
theorem d9_checkJump_46 : decode b9_checkJump 46 = .ok (.invokevirtual 115, 3) := by decide +kernel
theorem d9_checkJump_49 : decode b9_checkJump 49 = .ok (.invokevirtual 148, 3) := by decide +kernel
theorem d9_checkJump_52 : decode b9_checkJump 52 = .ok (.istore 5, 2) := by decide +kernel
theorem d9_checkJump_54 : decode b9_checkJump 54 = .ok (.iconst 0, 1) := by decide +kernel
theorem d9_checkJump_55 : decode b9_checkJump 55 = .ok (.istore 6, 2) := by decide +kernel
theorem d9_checkJump_57 : decode b9_checkJump 57 = .ok (.iload 6, 2) := by decide +kernel
theorem d9_checkJump_59 : decode b9_checkJump 59 = .ok (.iload 4, 2) := by decide +kernel
theorem d9_checkJump_61 : decode b9_checkJump 61 = .ok (.if_icmp .gt 34, 3) := by decide +kernel
theorem d9_checkJump_64 : decode b9_checkJump 64 = .ok (.aload_n 0, 1) := by decide +kernel
theorem d9_checkJump_65 : decode b9_checkJump 65 = .ok (.aload_n 0, 1) := by decide +kernel
theorem d9_checkJump_66 : decode b9_checkJump 66 = .ok (.iload_n 1, 1) := by decide +kernel
theorem d9_checkJump_67 : decode b9_checkJump 67 = .ok (.iload_n 2, 1) := by decide +kernel
theorem d9_checkJump_68 : decode b9_checkJump 68 = .ok (.iconst 2, 1) := by decide +kernel
theorem d9_checkJump_69 : decode b9_checkJump 69 = .ok (.iadd, 1) := by decide +kernel
theorem d9_checkJump_70 : decode b9_checkJump 70 = .ok (.iload 6, 2) := by decide +kernel
theorem d9_checkJump_72 : decode b9_checkJump 72 = .ok (.iadd, 1) := by decide +kernel
theorem d9_checkJump_73 : decode b9_checkJump 73 = .ok (.invokevirtual 115, 3) := by decide +kernel
theorem d9_checkJump_76 : decode b9_checkJump 76 = .ok (.invokevirtual 148, 3) := by decide +kernel
theorem d9_checkJump_79 : decode b9_checkJump 79 = .ok (.iload 5, 2) := by decide +kernel
theorem d9_checkJump_81 : decode b9_checkJump 81 = .ok (.if_icmp .eq 8, 3) := by decide +kernel
theorem d9_checkJump_84 : decode b9_checkJump 84 = .ok (.aload_n 0, 1) := by decide +kernel
theorem d9_checkJump_85 : decode b9_checkJump 85 = .ok (.iconst 1, 1) := by decide +kernel
theorem d9_checkJump_86 : decode b9_checkJump 86 = .ok (.putfield 125, 3) := by decide +kernel
theorem d9_checkJump_89 : decode b9_checkJump 89 = .ok (.iinc 6 1, 3) := by decide +kernel
theorem d9_checkJump_92 : decode b9_checkJump 92 = .ok (.goto (-35), 3) := by decide +kernel
theorem d9_checkJump_95 : decode b9_checkJump 95 = .ok (.aload_n 0, 1) := by decide +kernel
theorem d9_checkJump_96 : decode b9_checkJump 96 = .ok (.iload 5, 2) := by decide +kernel
theorem d9_checkJump_98 : decode b9_checkJump 98 = .ok (.invokevirtual 142, 3) := by decide +kernel
theorem d9_checkJump_101 : decode b9_checkJump 101 = .ok (.goto 47, 3) := by decide +kernel
theorem d9_checkJump_104 : decode b9_checkJump 104 = .ok (.iload_n 3, 1) := by decide +kernel
theorem d9_checkJump_105 : decode b9_checkJump 105 = .ok (.bipush 8, 2) := by decide +kernel
theorem d9_checkJump_107 : decode b9_checkJump 107 = .ok (.if_icmp .ne 8, 3) := by decide +kernel
theorem d9_checkJump_110 : decode b9_checkJump 110 = .ok (.aload_n 0, 1) := by decide +kernel
theorem d9_checkJump_111 : decode b9_checkJump 111 = .ok (.iconst 1, 1) := by decide +kernel
theorem d9_checkJump_112 : decode b9_checkJump 112 = .ok (.invokevirtual 135, 3) := by decide +kernel
theorem d9_checkJump_115 : decode b9_checkJump 115 = .ok (.aload_n 0, 1) := by decide +kernel
theorem d9_checkJump_116 : decode b9_checkJump 116 = .ok (.aload_n 0, 1) := by decide +kernel
theorem d9_checkJump_117 : decode b9_checkJump 117 = .ok (.iload_n 1, 1) := by decide +kernel
theorem d9_checkJump_118 : decode b9_checkJump 118 = .ok (.iload_n 2, 1) := by decide +kernel
theorem d9_checkJump_119 : decode b9_checkJump 119 = .ok (.iconst 1, 1) := by decide +kernel
theorem d9_checkJump_120 : decode b9_checkJump 120 = .ok (.iadd, 1) := by decide +kernel
theorem d9_checkJump_121 : decode b9_checkJump 121 = .ok (.invokevirtual 115, 3) := by decide +kernel
theorem d9_checkJump_124 : decode b9_checkJump 124 = .ok (.invokevirtual 148, 3) := by decide +kernel
theorem d9_checkJump_127 : decode b9_checkJump 127 = .ok (.istore 4, 2) := by decide +kernel
theorem d9_checkJump_129 : decode b9_checkJump 129 = .ok (.aload_n 0, 1) := by decide +kernel
theorem d9_checkJump_130 : decode b9_checkJump 130 = .ok (.iload 4, 2) := by decide +kernel
theorem d9_checkJump_132 : decode b9_checkJump 132 = .ok (.invokevirtual 142, 3) := by decide +kernel
theorem d9_checkJump_135 : decode b9_checkJump 135 = .ok (.iload_n 3, 1) := by decide +kernel
theorem d9_checkJump_136 : decode b9_checkJump 136 = .ok (.bipush 8, 2) := by decide +kernel
theorem d9_checkJump_138 : decode b9_checkJump 138 = .ok (.if_icmp .ne 10, 3) := by decide +kernel
theorem d9_checkJump_141 : decode b9_checkJump 141 = .ok (.aload_n 0, 1) := by decide +kernel
theorem d9_checkJump_142 : decode b9_checkJump 142 = .ok (.iload 4, 2) := by decide +kernel
theorem d9_checkJump_144 : decode b9_checkJump 144 = .ok (.invokevirtual 145, 3) := by decide +kernel
theorem d9_checkJump_147 : decode b9_checkJump 147 = .ok (.return_, 1) := by decide +kernel
theorem d9_checkJump_148 : decode b9_checkJump 148 = .ok (.aload_n 0, 1) := by decide +kernel
theorem d9_checkJump_149 : decode b9_checkJump 149 = .ok (.getfield 125, 3) := by decide +kernel
theorem d9_checkJump_152 : decode b9_checkJump 152 = .ok (.ifCond .ne 7, 3) := by decide +kernel
theorem d9_checkJump_155 : decode b9_checkJump 155 = .ok (.aload_n 0, 1) := by decide +kernel
theorem d9_checkJump_156 : decode b9_checkJump 156 = .ok (.invokevirtual 151, 3) := by decide +kernel
theorem d9_checkJump_159 : decode b9_checkJump 159 = .ok (.return_, 1) := by decide +kernel
theorem d9_checkCall_0 : decode b9_checkCall 0 = .ok (.iload_n 2, 1) := by decide +kernel
theorem d9_checkCall_1 : decode b9_checkCall 1 = .ok (.bipush 12, 2) := by decide +kernel
theorem d9_checkCall_3 : decode b9_checkCall 3 = .ok (.if_icmp .ne 8, 3) := by decide +kernel
theorem d9_checkCall_6 : decode b9_checkCall 6 = .ok (.aload_n 0, 1) := by decide +kernel
theorem d9_checkCall_7 : decode b9_checkCall 7 = .ok (.iconst 1, 1) := by decide +kernel
theorem d9_checkCall_8 : decode b9_checkCall 8 = .ok (.invokevirtual 135, 3) := by decide +kernel
theorem d9_checkCall_11 : decode b9_checkCall 11 = .ok (.iload_n 1, 1) := by decide +kernel
theorem d9_checkCall_12 : decode b9_checkCall 12 = .ok (.iconst 5, 1) := by decide +kernel
theorem d9_checkCall_13 : decode b9_checkCall 13 = .ok (.if_icmp .gt 18, 3) := by decide +kernel
theorem d9_checkCall_16 : decode b9_checkCall 16 = .ok (.iload_n 2, 1) := by decide +kernel
theorem d9_checkCall_17 : decode b9_checkCall 17 = .ok (.bipush 11, 2) := by decide +kernel
theorem d9_checkCall_19 : decode b9_checkCall 19 = .ok (.if_icmp .ne 18, 3) := by decide +kernel
theorem d9_checkCall_22 : decode b9_checkCall 22 = .ok (.aload_n 0, 1) := by decide +kernel
theorem d9_checkCall_23 : decode b9_checkCall 23 = .ok (.getfield 25, 3) := by decide +kernel
theorem d9_checkCall_26 : decode b9_checkCall 26 = .ok (.iload_n 1, 1) := by decide +kernel
theorem d9_checkCall_27 : decode b9_checkCall 27 = .ok (.iaload, 1) := by decide +kernel
theorem d9_checkCall_28 : decode b9_checkCall 28 = .ok (.ifCond .ne 9, 3) := by decide +kernel
theorem d9_checkCall_31 : decode b9_checkCall 31 = .ok (.aload_n 0, 1) := by decide +kernel
theorem d9_checkCall_32 : decode b9_checkCall 32 = .ok (.iconst 1, 1) := by decide +kernel
theorem d9_checkCall_33 : decode b9_checkCall 33 = .ok (.putfield 125, 3) := by decide +kernel
theorem d9_checkCall_36 : decode b9_checkCall 36 = .ok (.return_, 1) := by decide +kernel
theorem d9_checkCall_37 : decode b9_checkCall 37 = .ok (.aload_n 0, 1) := by decide +kernel
theorem d9_checkCall_38 : decode b9_checkCall 38 = .ok (.getfield 13, 3) := by decide +kernel
theorem d9_checkCall_41 : decode b9_checkCall 41 = .ok (.iload_n 1, 1) := by decide +kernel
theorem d9_checkCall_42 : decode b9_checkCall 42 = .ok (.iaload, 1) := by decide +kernel
theorem d9_checkCall_43 : decode b9_checkCall 43 = .ok (.iconst 1, 1) := by decide +kernel
theorem d9_checkCall_44 : decode b9_checkCall 44 = .ok (.isub, 1) := by decide +kernel
theorem d9_checkCall_45 : decode b9_checkCall 45 = .ok (.istore_n 3, 1) := by decide +kernel
theorem d9_checkCall_46 : decode b9_checkCall 46 = .ok (.iload_n 3, 1) := by decide +kernel
theorem d9_checkCall_47 : decode b9_checkCall 47 = .ok (.ifCond .lt 24, 3) := by decide +kernel
theorem d9_checkCall_50 : decode b9_checkCall 50 = .ok (.aload_n 0, 1) := by decide +kernel
theorem d9_checkCall_51 : decode b9_checkCall 51 = .ok (.aload_n 0, 1) := by decide +kernel
theorem d9_checkCall_52 : decode b9_checkCall 52 = .ok (.getfield 7, 3) := by decide +kernel
theorem d9_checkCall_55 : decode b9_checkCall 55 = .ok (.bipush 6, 2) := by decide +kernel
theorem d9_checkCall_57 : decode b9_checkCall 57 = .ok (.iload_n 1, 1) := by decide +kernel
theorem d9_checkCall_58 : decode b9_checkCall 58 = .ok (.imul, 1) := by decide +kernel
theorem d9_checkCall_59 : decode b9_checkCall 59 = .ok (.iload_n 3, 1) := by decide +kernel
theorem d9_checkCall_60 : decode b9_checkCall 60 = .ok (.iadd, 1) := by decide +kernel
theorem d9_checkCall_61 : decode b9_checkCall 61 = .ok (.iaload, 1) := by decide +kernel
theorem d9_checkCall_62 : decode b9_checkCall 62 = .ok (.invokevirtual 135, 3) := by decide +kernel
theorem d9_checkCall_65 : decode b9_checkCall 65 = .ok (.iinc 3 (-1), 3) := by decide +kernel
theorem d9_checkCall_68 : decode b9_checkCall 68 = .ok (.goto (-22), 3) := by decide +kernel
theorem d9_checkCall_71 : decode b9_checkCall 71 = .ok (.aload_n 0, 1) := by decide +kernel
theorem d9_checkCall_72 : decode b9_checkCall 72 = .ok (.aload_n 0, 1) := by decide +kernel
theorem d9_checkCall_73 : decode b9_checkCall 73 = .ok (.getfield 19, 3) := by decide +kernel
theorem d9_checkCall_76 : decode b9_checkCall 76 = .ok (.iload_n 1, 1) := by decide +kernel
theorem d9_checkCall_77 : decode b9_checkCall 77 = .ok (.iaload, 1) := by decide +kernel
theorem d9_checkCall_78 : decode b9_checkCall 78 = .ok (.invokevirtual 145, 3) := by decide +kernel
theorem d9_checkCall_81 : decode b9_checkCall 81 = .ok (.return_, 1) := by decide +kernel
theorem d9_checkSelect_0 : decode b9_checkSelect 0 = .ok (.aload_n 0, 1) := by decide +kernel
theorem d9_checkSelect_1 : decode b9_checkSelect 1 = .ok (.iconst 1, 1) := by decide +kernel
theorem d9_checkSelect_2 : decode b9_checkSelect 2 = .ok (.invokevirtual 135, 3) := by decide +kernel
theorem d9_checkSelect_5 : decode b9_checkSelect 5 = .ok (.aload_n 0, 1) := by decide +kernel
theorem d9_checkSelect_6 : decode b9_checkSelect 6 = .ok (.invokevirtual 131, 3) := by decide +kernel
theorem d9_checkSelect_9 : decode b9_checkSelect 9 = .ok (.istore_n 1, 1) := by decide +kernel
theorem d9_checkSelect_10 : decode b9_checkSelect 10 = .ok (.aload_n 0, 1) := by decide +kernel
theorem d9_checkSelect_11 : decode b9_checkSelect 11 = .ok (.invokevirtual 131, 3) := by decide +kernel
theorem d9_checkSelect_14 : decode b9_checkSelect 14 = .ok (.istore_n 2, 1) := by decide +kernel
theorem d9_checkSelect_15 : decode b9_checkSelect 15 = .ok (.iload_n 2, 1) := by decide +kernel
theorem d9_checkSelect_16 : decode b9_checkSelect 16 = .ok (.iconst 4, 1) := by decide +kernel
theorem d9_checkSelect_17 : decode b9_checkSelect 17 = .ok (.if_icmp .eq 18, 3) := by decide +kernel
theorem d9_checkSelect_20 : decode b9_checkSelect 20 = .ok (.iload_n 1, 1) := by decide +kernel
theorem d9_checkSelect_21 : decode b9_checkSelect 21 = .ok (.iconst 4, 1) := by decide +kernel
theorem d9_checkSelect_22 : decode b9_checkSelect 22 = .ok (.if_icmp .eq 13, 3) := by decide +kernel
theorem d9_checkSelect_25 : decode b9_checkSelect 25 = .ok (.iload_n 2, 1) := by decide +kernel
theorem d9_checkSelect_26 : decode b9_checkSelect 26 = .ok (.iload_n 1, 1) := by decide +kernel
theorem d9_checkSelect_27 : decode b9_checkSelect 27 = .ok (.if_icmp .eq 8, 3) := by decide +kernel
theorem d9_checkSelect_30 : decode b9_checkSelect 30 = .ok (.aload_n 0, 1) := by decide +kernel
theorem d9_checkSelect_31 : decode b9_checkSelect 31 = .ok (.iconst 1, 1) := by decide +kernel
theorem d9_checkSelect_32 : decode b9_checkSelect 32 = .ok (.putfield 125, 3) := by decide +kernel
theorem d9_checkSelect_35 : decode b9_checkSelect 35 = .ok (.aload_n 0, 1) := by decide +kernel
theorem d9_checkSelect_36 : decode b9_checkSelect 36 = .ok (.iload_n 2, 1) := by decide +kernel
theorem d9_checkSelect_37 : decode b9_checkSelect 37 = .ok (.iconst 4, 1) := by decide +kernel
theorem d9_checkSelect_38 : decode b9_checkSelect 38 = .ok (.if_icmp .ne 7, 3) := by decide +kernel
theorem d9_checkSelect_41 : decode b9_checkSelect 41 = .ok (.iload_n 1, 1) := by decide +kernel
theorem d9_checkSelect_42 : decode b9_checkSelect 42 = .ok (.goto 4, 3) := by decide +kernel
theorem d9_checkSelect_45 : decode b9_checkSelect 45 = .ok (.iload_n 2, 1) := by decide +kernel
theorem d9_checkSelect_46 : decode b9_checkSelect 46 = .ok (.invokevirtual 139, 3) := by decide +kernel
theorem d9_checkSelect_49 : decode b9_checkSelect 49 = .ok (.return_, 1) := by decide +kernel
theorem d9_checkVariable_0 : decode b9_checkVariable 0 = .ok (.iload_n 2, 1) := by decide +kernel
theorem d9_checkVariable_1 : decode b9_checkVariable 1 = .ok (.bipush 18, 2) := by decide +kernel
theorem d9_checkVariable_3 : decode b9_checkVariable 3 = .ok (.if_icmp .lt 7, 3) := by decide +kernel
theorem d9_checkVariable_6 : decode b9_checkVariable 6 = .ok (.iconst 1, 1) := by decide +kernel
theorem d9_checkVariable_7 : decode b9_checkVariable 7 = .ok (.goto 4, 3) := by decide +kernel
theorem d9_checkVariable_10 : decode b9_checkVariable 10 = .ok (.iconst 0, 1) := by decide +kernel
theorem d9_checkVariable_11 : decode b9_checkVariable 11 = .ok (.istore 4, 2) := by decide +kernel
theorem d9_checkVariable_13 : decode b9_checkVariable 13 = .ok (.iload_n 3, 1) := by decide +kernel
theorem d9_checkVariable_14 : decode b9_checkVariable 14 = .ok (.iload 4, 2) := by decide +kernel
theorem d9_checkVariable_16 : decode b9_checkVariable 16 = .ok (.ifCond .eq 7, 3) := by decide +kernel
theorem d9_checkVariable_19 : decode b9_checkVariable 19 = .ok (.iconst 3, 1) := by decide +kernel
theorem d9_checkVariable_20 : decode b9_checkVariable 20 = .ok (.goto 9, 3) := by decide +kernel
theorem d9_checkVariable_23 : decode b9_checkVariable 23 = .ok (.aload_n 0, 1) := by decide +kernel
theorem d9_checkVariable_24 : decode b9_checkVariable 24 = .ok (.getfield 16, 3) := by decide +kernel
theorem d9_checkVariable_27 : decode b9_checkVariable 27 = .ok (.iload_n 1, 1) := by decide +kernel
theorem d9_checkVariable_28 : decode b9_checkVariable 28 = .ok (.iaload, 1) := by decide +kernel
theorem d9_checkVariable_29 : decode b9_checkVariable 29 = .ok (.if_icmp .lt 9, 3) := by decide +kernel
theorem d9_checkVariable_32 : decode b9_checkVariable 32 = .ok (.aload_n 0, 1) := by decide +kernel
theorem d9_checkVariable_33 : decode b9_checkVariable 33 = .ok (.iconst 1, 1) := by decide +kernel
theorem d9_checkVariable_34 : decode b9_checkVariable 34 = .ok (.putfield 125, 3) := by decide +kernel
theorem d9_checkVariable_37 : decode b9_checkVariable 37 = .ok (.return_, 1) := by decide +kernel
theorem d9_checkVariable_38 : decode b9_checkVariable 38 = .ok (.iload 4, 2) := by decide +kernel
theorem d9_checkVariable_40 : decode b9_checkVariable 40 = .ok (.ifCond .eq 9, 3) := by decide +kernel
theorem d9_checkVariable_43 : decode b9_checkVariable 43 = .ok (.iload_n 3, 1) := by decide +kernel
theorem d9_checkVariable_44 : decode b9_checkVariable 44 = .ok (.iconst 1, 1) := by decide +kernel
theorem d9_checkVariable_45 : decode b9_checkVariable 45 = .ok (.iadd, 1) := by decide +kernel
theorem d9_checkVariable_46 : decode b9_checkVariable 46 = .ok (.goto 14, 3) := by decide +kernel
theorem d9_checkVariable_49 : decode b9_checkVariable 49 = .ok (.aload_n 0, 1) := by decide +kernel
theorem d9_checkVariable_50 : decode b9_checkVariable 50 = .ok (.getfield 7, 3) := by decide +kernel
theorem d9_checkVariable_53 : decode b9_checkVariable 53 = .ok (.bipush 6, 2) := by decide +kernel
theorem d9_checkVariable_55 : decode b9_checkVariable 55 = .ok (.iload_n 1, 1) := by decide +kernel
theorem d9_checkVariable_56 : decode b9_checkVariable 56 = .ok (.imul, 1) := by decide +kernel
theorem d9_checkVariable_57 : decode b9_checkVariable 57 = .ok (.iload_n 3, 1) := by decide +kernel
theorem d9_checkVariable_58 : decode b9_checkVariable 58 = .ok (.iadd, 1) := by decide +kernel
theorem d9_checkVariable_59 : decode b9_checkVariable 59 = .ok (.iaload, 1) := by decide +kernel
theorem d9_checkVariable_60 : decode b9_checkVariable 60 = .ok (.istore 5, 2) := by decide +kernel
theorem d9_checkVariable_62 : decode b9_checkVariable 62 = .ok (.iload_n 2, 1) := by decide +kernel
theorem d9_checkVariable_63 : decode b9_checkVariable 63 = .ok (.bipush 16, 2) := by decide +kernel
theorem d9_checkVariable_65 : decode b9_checkVariable 65 = .ok (.if_icmp .eq 15, 3) := by decide +kernel
theorem d9_checkVariable_68 : decode b9_checkVariable 68 = .ok (.iload_n 2, 1) := by decide +kernel
theorem d9_checkVariable_69 : decode b9_checkVariable 69 = .ok (.bipush 17, 2) := by decide +kernel
theorem d9_checkVariable_71 : decode b9_checkVariable 71 = .ok (.if_icmp .eq 9, 3) := by decide +kernel
theorem d9_checkVariable_74 : decode b9_checkVariable 74 = .ok (.iload_n 2, 1) := by decide +kernel
theorem d9_checkVariable_75 : decode b9_checkVariable 75 = .ok (.bipush 19, 2) := by decide +kernel
theorem d9_checkVariable_77 : decode b9_checkVariable 77 = .ok (.if_icmp .ne 9, 3) := by decide +kernel
theorem d9_checkVariable_80 : decode b9_checkVariable 80 = .ok (.aload_n 0, 1) := by decide +kernel
theorem d9_checkVariable_81 : decode b9_checkVariable 81 = .ok (.iload 5, 2) := by decide +kernel
theorem d9_checkVariable_83 : decode b9_checkVariable 83 = .ok (.invokevirtual 135, 3) := by decide +kernel
theorem d9_checkVariable_86 : decode b9_checkVariable 86 = .ok (.iload_n 2, 1) := by decide +kernel
theorem d9_checkVariable_87 : decode b9_checkVariable 87 = .ok (.bipush 15, 2) := by decide +kernel
theorem d9_checkVariable_89 : decode b9_checkVariable 89 = .ok (.if_icmp .eq 15, 3) := by decide +kernel
theorem d9_checkVariable_92 : decode b9_checkVariable 92 = .ok (.iload_n 2, 1) := by decide +kernel
theorem d9_checkVariable_93 : decode b9_checkVariable 93 = .ok (.bipush 17, 2) := by decide +kernel
theorem d9_checkVariable_95 : decode b9_checkVariable 95 = .ok (.if_icmp .eq 9, 3) := by decide +kernel
theorem d9_checkVariable_98 : decode b9_checkVariable 98 = .ok (.iload_n 2, 1) := by decide +kernel
theorem d9_checkVariable_99 : decode b9_checkVariable 99 = .ok (.bipush 18, 2) := by decide +kernel
theorem d9_checkVariable_101 : decode b9_checkVariable 101 = .ok (.if_icmp .ne 9, 3) := by decide +kernel
theorem d9_checkVariable_104 : decode b9_checkVariable 104 = .ok (.aload_n 0, 1) := by decide +kernel
theorem d9_checkVariable_105 : decode b9_checkVariable 105 = .ok (.iload 5, 2) := by decide +kernel
theorem d9_checkVariable_107 : decode b9_checkVariable 107 = .ok (.invokevirtual 139, 3) := by decide +kernel
theorem d9_checkVariable_110 : decode b9_checkVariable 110 = .ok (.return_, 1) := by decide +kernel
theorem d9_checkPlain_0 : decode b9_checkPlain 0 = .ok (.iload_n 1, 1) := by decide +kernel
theorem d9_checkPlain_1 : decode b9_checkPlain 1 = .ok (.bipush 20, 2) := by decide +kernel
theorem d9_checkPlain_3 : decode b9_checkPlain 3 = .ok (.if_icmp .lt 20, 3) := by decide +kernel
theorem d9_checkPlain_6 : decode b9_checkPlain 6 = .ok (.iload_n 1, 1) := by decide +kernel
theorem d9_checkPlain_7 : decode b9_checkPlain 7 = .ok (.bipush 22, 2) := by decide +kernel
theorem d9_checkPlain_9 : decode b9_checkPlain 9 = .ok (.if_icmp .gt 14, 3) := by decide +kernel
theorem d9_checkPlain_12 : decode b9_checkPlain 12 = .ok (.aload_n 0, 1) := by decide +kernel
theorem d9_checkPlain_13 : decode b9_checkPlain 13 = .ok (.iload_n 1, 1) := by decide +kernel
theorem d9_checkPlain_14 : decode b9_checkPlain 14 = .ok (.bipush 19, 2) := by decide +kernel
theorem d9_checkPlain_16 : decode b9_checkPlain 16 = .ok (.isub, 1) := by decide +kernel
theorem d9_checkPlain_17 : decode b9_checkPlain 17 = .ok (.invokevirtual 139, 3) := by decide +kernel
theorem d9_checkPlain_20 : decode b9_checkPlain 20 = .ok (.goto 256, 3) := by decide +kernel
theorem d9_checkPlain_23 : decode b9_checkPlain 23 = .ok (.iload_n 1, 1) := by decide +kernel
theorem d9_checkPlain_24 : decode b9_checkPlain 24 = .ok (.bipush 28, 2) := by decide +kernel
theorem d9_checkPlain_26 : decode b9_checkPlain 26 = .ok (.if_icmp .gt 57, 3) := by decide +kernel
theorem d9_checkPlain_29 : decode b9_checkPlain 29 = .ok (.iload_n 1, 1) := by decide +kernel
theorem d9_checkPlain_30 : decode b9_checkPlain 30 = .ok (.bipush 28, 2) := by decide +kernel
theorem d9_checkPlain_32 : decode b9_checkPlain 32 = .ok (.if_icmp .ne 11, 3) := by decide +kernel
theorem d9_checkPlain_35 : decode b9_checkPlain 35 = .ok (.aload_n 0, 1) := by decide +kernel
theorem d9_checkPlain_36 : decode b9_checkPlain 36 = .ok (.iconst 2, 1) := by decide +kernel
theorem d9_checkPlain_37 : decode b9_checkPlain 37 = .ok (.invokevirtual 135, 3) := by decide +kernel
theorem d9_checkPlain_40 : decode b9_checkPlain 40 = .ok (.goto 14, 3) := by decide +kernel
theorem d9_checkPlain_43 : decode b9_checkPlain 43 = .ok (.iload_n 1, 1) := by decide +kernel
theorem d9_checkPlain_44 : decode b9_checkPlain 44 = .ok (.bipush 26, 2) := by decide +kernel
theorem d9_checkPlain_46 : decode b9_checkPlain 46 = .ok (.if_icmp .lt 8, 3) := by decide +kernel
theorem d9_checkPlain_49 : decode b9_checkPlain 49 = .ok (.aload_n 0, 1) := by decide +kernel
theorem d9_checkPlain_50 : decode b9_checkPlain 50 = .ok (.iconst 1, 1) := by decide +kernel
theorem d9_checkPlain_51 : decode b9_checkPlain 51 = .ok (.invokevirtual 135, 3) := by decide +kernel
theorem d9_checkPlain_54 : decode b9_checkPlain 54 = .ok (.aload_n 0, 1) := by decide +kernel
theorem d9_checkPlain_55 : decode b9_checkPlain 55 = .ok (.iconst 1, 1) := by decide +kernel
theorem d9_checkPlain_56 : decode b9_checkPlain 56 = .ok (.invokevirtual 135, 3) := by decide +kernel
theorem d9_checkPlain_59 : decode b9_checkPlain 59 = .ok (.iload_n 1, 1) := by decide +kernel
theorem d9_checkPlain_60 : decode b9_checkPlain 60 = .ok (.bipush 25, 2) := by decide +kernel
theorem d9_checkPlain_62 : decode b9_checkPlain 62 = .ok (.if_icmp .gt 214, 3) := by decide +kernel
theorem d9_checkPlain_65 : decode b9_checkPlain 65 = .ok (.aload_n 0, 1) := by decide +kernel
theorem d9_checkPlain_66 : decode b9_checkPlain 66 = .ok (.iload_n 1, 1) := by decide +kernel
theorem d9_checkPlain_67 : decode b9_checkPlain 67 = .ok (.bipush 25, 2) := by decide +kernel
theorem d9_checkPlain_69 : decode b9_checkPlain 69 = .ok (.if_icmp .ne 7, 3) := by decide +kernel
theorem d9_checkPlain_72 : decode b9_checkPlain 72 = .ok (.iconst 2, 1) := by decide +kernel
theorem d9_checkPlain_73 : decode b9_checkPlain 73 = .ok (.goto 4, 3) := by decide +kernel
theorem d9_checkPlain_76 : decode b9_checkPlain 76 = .ok (.iconst 1, 1) := by decide +kernel
theorem d9_checkPlain_77 : decode b9_checkPlain 77 = .ok (.invokevirtual 139, 3) := by decide +kernel
theorem d9_checkPlain_80 : decode b9_checkPlain 80 = .ok (.goto 196, 3) := by decide +kernel
theorem d9_checkPlain_83 : decode b9_checkPlain 83 = .ok (.iload_n 1, 1) := by decide +kernel
theorem d9_checkPlain_84 : decode b9_checkPlain 84 = .ok (.bipush 50, 2) := by decide +kernel
theorem d9_checkPlain_86 : decode b9_checkPlain 86 = .ok (.if_icmp .ge 7, 3) := by decide +kernel
theorem d9_checkPlain_89 : decode b9_checkPlain 89 = .ok (.iconst 1, 1) := by decide +kernel
theorem d9_checkPlain_90 : decode b9_checkPlain 90 = .ok (.goto 50, 3) := by decide +kernel
theorem d9_checkPlain_93 : decode b9_checkPlain 93 = .ok (.iload_n 1, 1) := by decide +kernel
theorem d9_checkPlain_94 : decode b9_checkPlain 94 = .ok (.bipush 65, 2) := by decide +kernel
theorem d9_checkPlain_96 : decode b9_checkPlain 96 = .ok (.if_icmp .ge 7, 3) := by decide +kernel
theorem d9_checkPlain_99 : decode b9_checkPlain 99 = .ok (.iconst 2, 1) := by decide +kernel
theorem d9_checkPlain_100 : decode b9_checkPlain 100 = .ok (.goto 40, 3) := by decide +kernel
theorem d9_checkPlain_103 : decode b9_checkPlain 103 = .ok (.iload_n 1, 1) := by decide +kernel
theorem d9_checkPlain_104 : decode b9_checkPlain 104 = .ok (.bipush 77, 2) := by decide +kernel
theorem d9_checkPlain_106 : decode b9_checkPlain 106 = .ok (.if_icmp .ge 7, 3) := by decide +kernel
theorem d9_checkPlain_109 : decode b9_checkPlain 109 = .ok (.iconst 3, 1) := by decide +kernel
theorem d9_checkPlain_110 : decode b9_checkPlain 110 = .ok (.goto 30, 3) := by decide +kernel
theorem d9_checkPlain_113 : decode b9_checkPlain 113 = .ok (.iload_n 1, 1) := by decide +kernel
theorem d9_checkPlain_114 : decode b9_checkPlain 114 = .ok (.bipush 80, 2) := by decide +kernel
theorem d9_checkPlain_116 : decode b9_checkPlain 116 = .ok (.if_icmp .eq 9, 3) := by decide +kernel
theorem d9_checkPlain_119 : decode b9_checkPlain 119 = .ok (.iload_n 1, 1) := by decide +kernel
theorem d9_checkPlain_120 : decode b9_checkPlain 120 = .ok (.bipush 84, 2) := by decide +kernel
theorem d9_checkPlain_122 : decode b9_checkPlain 122 = .ok (.if_icmp .ne 7, 3) := by decide +kernel
theorem d9_checkPlain_125 : decode b9_checkPlain 125 = .ok (.iconst 2, 1) := by decide +kernel
theorem d9_checkPlain_126 : decode b9_checkPlain 126 = .ok (.goto 14, 3) := by decide +kernel
theorem d9_checkPlain_129 : decode b9_checkPlain 129 = .ok (.iload_n 1, 1) := by decide +kernel
theorem d9_checkPlain_130 : decode b9_checkPlain 130 = .ok (.bipush 83, 2) := by decide +kernel
theorem d9_checkPlain_132 : decode b9_checkPlain 132 = .ok (.if_icmp .ne 7, 3) := by decide +kernel
theorem d9_checkPlain_135 : decode b9_checkPlain 135 = .ok (.iconst 3, 1) := by decide +kernel
theorem d9_checkPlain_136 : decode b9_checkPlain 136 = .ok (.goto 4, 3) := by decide +kernel
theorem d9_checkPlain_139 : decode b9_checkPlain 139 = .ok (.iconst 1, 1) := by decide +kernel
theorem d9_checkPlain_140 : decode b9_checkPlain 140 = .ok (.istore_n 2, 1) := by decide +kernel
theorem d9_checkPlain_141 : decode b9_checkPlain 141 = .ok (.iload_n 1, 1) := by decide +kernel
theorem d9_checkPlain_142 : decode b9_checkPlain 142 = .ok (.bipush 45, 2) := by decide +kernel
theorem d9_checkPlain_144 : decode b9_checkPlain 144 = .ok (.if_icmp .eq 15, 3) := by decide +kernel
theorem d9_checkPlain_147 : decode b9_checkPlain 147 = .ok (.iload_n 1, 1) := by decide +kernel
theorem d9_checkPlain_148 : decode b9_checkPlain 148 = .ok (.bipush 64, 2) := by decide +kernel
theorem d9_checkPlain_150 : decode b9_checkPlain 150 = .ok (.if_icmp .eq 9, 3) := by decide +kernel
theorem d9_checkPlain_153 : decode b9_checkPlain 153 = .ok (.iload_n 1, 1) := by decide +kernel
theorem d9_checkPlain_154 : decode b9_checkPlain 154 = .ok (.bipush 76, 2) := by decide +kernel
theorem d9_checkPlain_156 : decode b9_checkPlain 156 = .ok (.if_icmp .lt 7, 3) := by decide +kernel
theorem d9_checkPlain_159 : decode b9_checkPlain 159 = .ok (.iconst 1, 1) := by decide +kernel
theorem d9_checkPlain_160 : decode b9_checkPlain 160 = .ok (.goto 4, 3) := by decide +kernel
theorem d9_checkPlain_163 : decode b9_checkPlain 163 = .ok (.iconst 0, 1) := by decide +kernel
theorem d9_checkPlain_164 : decode b9_checkPlain 164 = .ok (.istore_n 3, 1) := by decide +kernel
theorem d9_checkPlain_165 : decode b9_checkPlain 165 = .ok (.aload_n 0, 1) := by decide +kernel
theorem d9_checkPlain_166 : decode b9_checkPlain 166 = .ok (.iload_n 2, 1) := by decide +kernel
theorem d9_checkPlain_167 : decode b9_checkPlain 167 = .ok (.invokevirtual 135, 3) := by decide +kernel
theorem d9_checkPlain_170 : decode b9_checkPlain 170 = .ok (.iload_n 3, 1) := by decide +kernel
theorem d9_checkPlain_171 : decode b9_checkPlain 171 = .ok (.ifCond .ne 8, 3) := by decide +kernel
theorem d9_checkPlain_174 : decode b9_checkPlain 174 = .ok (.aload_n 0, 1) := by decide +kernel
theorem d9_checkPlain_175 : decode b9_checkPlain 175 = .ok (.iload_n 2, 1) := by decide +kernel
theorem d9_checkPlain_176 : decode b9_checkPlain 176 = .ok (.invokevirtual 135, 3) := by decide +kernel
theorem d9_checkPlain_179 : decode b9_checkPlain 179 = .ok (.iload_n 1, 1) := by decide +kernel
theorem d9_checkPlain_180 : decode b9_checkPlain 180 = .ok (.bipush 50, 2) := by decide +kernel
theorem d9_checkPlain_182 : decode b9_checkPlain 182 = .ok (.if_icmp .ge 7, 3) := by decide +kernel
theorem d9_checkPlain_185 : decode b9_checkPlain 185 = .ok (.iconst 1, 1) := by decide +kernel
theorem d9_checkPlain_186 : decode b9_checkPlain 186 = .ok (.goto 82, 3) := by decide +kernel
theorem d9_checkPlain_189 : decode b9_checkPlain 189 = .ok (.iload_n 1, 1) := by decide +kernel
theorem d9_checkPlain_190 : decode b9_checkPlain 190 = .ok (.bipush 61, 2) := by decide +kernel
theorem d9_checkPlain_192 : decode b9_checkPlain 192 = .ok (.if_icmp .ge 7, 3) := by decide +kernel
theorem d9_checkPlain_195 : decode b9_checkPlain 195 = .ok (.iconst 2, 1) := by decide +kernel
theorem d9_checkPlain_196 : decode b9_checkPlain 196 = .ok (.goto 72, 3) := by decide +kernel
theorem d9_checkPlain_199 : decode b9_checkPlain 199 = .ok (.iload_n 1, 1) := by decide +kernel
theorem d9_checkPlain_200 : decode b9_checkPlain 200 = .ok (.bipush 65, 2) := by decide +kernel
theorem d9_checkPlain_202 : decode b9_checkPlain 202 = .ok (.if_icmp .ge 7, 3) := by decide +kernel
theorem d9_checkPlain_205 : decode b9_checkPlain 205 = .ok (.iconst 1, 1) := by decide +kernel
theorem d9_checkPlain_206 : decode b9_checkPlain 206 = .ok (.goto 62, 3) := by decide +kernel
theorem d9_checkPlain_209 : decode b9_checkPlain 209 = .ok (.iload_n 1, 1) := by decide +kernel
theorem d9_checkPlain_210 : decode b9_checkPlain 210 = .ok (.bipush 74, 2) := by decide +kernel
theorem d9_checkPlain_212 : decode b9_checkPlain 212 = .ok (.if_icmp .lt 9, 3) := by decide +kernel
theorem d9_checkPlain_215 : decode b9_checkPlain 215 = .ok (.iload_n 1, 1) := by decide +kernel
theorem d9_checkPlain_216 : decode b9_checkPlain 216 = .ok (.bipush 76, 2) := by decide +kernel
theorem d9_checkPlain_218 : decode b9_checkPlain 218 = .ok (.if_icmp .ne 7, 3) := by decide +kernel
theorem d9_checkPlain_221 : decode b9_checkPlain 221 = .ok (.iconst 3, 1) := by decide +kernel
theorem d9_checkPlain_222 : decode b9_checkPlain 222 = .ok (.goto 46, 3) := by decide +kernel
theorem d9_checkPlain_225 : decode b9_checkPlain 225 = .ok (.iload_n 1, 1) := by decide +kernel
theorem d9_checkPlain_226 : decode b9_checkPlain 226 = .ok (.bipush 76, 2) := by decide +kernel
theorem d9_checkPlain_228 : decode b9_checkPlain 228 = .ok (.if_icmp .ge 7, 3) := by decide +kernel
theorem d9_checkPlain_231 : decode b9_checkPlain 231 = .ok (.iconst 1, 1) := by decide +kernel
theorem d9_checkPlain_232 : decode b9_checkPlain 232 = .ok (.goto 36, 3) := by decide +kernel
theorem d9_checkPlain_235 : decode b9_checkPlain 235 = .ok (.iload_n 1, 1) := by decide +kernel
theorem d9_checkPlain_236 : decode b9_checkPlain 236 = .ok (.bipush 80, 2) := by decide +kernel
theorem d9_checkPlain_238 : decode b9_checkPlain 238 = .ok (.if_icmp .eq 9, 3) := by decide +kernel
theorem d9_checkPlain_241 : decode b9_checkPlain 241 = .ok (.iload_n 1, 1) := by decide +kernel
theorem d9_checkPlain_242 : decode b9_checkPlain 242 = .ok (.bipush 83, 2) := by decide +kernel
theorem d9_checkPlain_244 : decode b9_checkPlain 244 = .ok (.if_icmp .ne 7, 3) := by decide +kernel
theorem d9_checkPlain_247 : decode b9_checkPlain 247 = .ok (.iconst 1, 1) := by decide +kernel
theorem d9_checkPlain_248 : decode b9_checkPlain 248 = .ok (.goto 20, 3) := by decide +kernel
theorem d9_checkPlain_251 : decode b9_checkPlain 251 = .ok (.iload_n 1, 1) := by decide +kernel
theorem d9_checkPlain_252 : decode b9_checkPlain 252 = .ok (.bipush 82, 2) := by decide +kernel
theorem d9_checkPlain_254 : decode b9_checkPlain 254 = .ok (.if_icmp .eq 9, 3) := by decide +kernel
theorem d9_checkPlain_257 : decode b9_checkPlain 257 = .ok (.iload_n 1, 1) := by decide +kernel
theorem d9_checkPlain_258 : decode b9_checkPlain 258 = .ok (.bipush 84, 2) := by decide +kernel
theorem d9_checkPlain_260 : decode b9_checkPlain 260 = .ok (.if_icmp .ne 7, 3) := by decide +kernel
theorem d9_checkPlain_263 : decode b9_checkPlain 263 = .ok (.iconst 3, 1) := by decide +kernel
theorem d9_checkPlain_264 : decode b9_checkPlain 264 = .ok (.goto 4, 3) := by decide +kernel
theorem d9_checkPlain_267 : decode b9_checkPlain 267 = .ok (.iconst 2, 1) := by decide +kernel
theorem d9_checkPlain_268 : decode b9_checkPlain 268 = .ok (.istore 4, 2) := by decide +kernel
theorem d9_checkPlain_270 : decode b9_checkPlain 270 = .ok (.aload_n 0, 1) := by decide +kernel
theorem d9_checkPlain_271 : decode b9_checkPlain 271 = .ok (.iload 4, 2) := by decide +kernel
theorem d9_checkPlain_273 : decode b9_checkPlain 273 = .ok (.invokevirtual 139, 3) := by decide +kernel
theorem d9_checkPlain_276 : decode b9_checkPlain 276 = .ok (.return_, 1) := by decide +kernel
theorem d9_checkOne_0 : decode b9_checkOne 0 = .ok (.aload_n 0, 1) := by decide +kernel
theorem d9_checkOne_1 : decode b9_checkOne 1 = .ok (.iload_n 1, 1) := by decide +kernel
theorem d9_checkOne_2 : decode b9_checkOne 2 = .ok (.iload_n 2, 1) := by decide +kernel
theorem d9_checkOne_3 : decode b9_checkOne 3 = .ok (.invokevirtual 115, 3) := by decide +kernel
theorem d9_checkOne_6 : decode b9_checkOne 6 = .ok (.istore_n 3, 1) := by decide +kernel
theorem d9_checkOne_7 : decode b9_checkOne 7 = .ok (.iload_n 2, 1) := by decide +kernel
theorem d9_checkOne_8 : decode b9_checkOne 8 = .ok (.iconst 1, 1) := by decide +kernel
theorem d9_checkOne_9 : decode b9_checkOne 9 = .ok (.iadd, 1) := by decide +kernel
theorem d9_checkOne_10 : decode b9_checkOne 10 = .ok (.bipush 60, 2) := by decide +kernel
theorem d9_checkOne_12 : decode b9_checkOne 12 = .ok (.if_icmp .ge 14, 3) := by decide +kernel
theorem d9_checkOne_15 : decode b9_checkOne 15 = .ok (.aload_n 0, 1) := by decide +kernel
theorem d9_checkOne_16 : decode b9_checkOne 16 = .ok (.iload_n 1, 1) := by decide +kernel
theorem d9_checkOne_17 : decode b9_checkOne 17 = .ok (.iload_n 2, 1) := by decide +kernel
theorem d9_checkOne_18 : decode b9_checkOne 18 = .ok (.iconst 1, 1) := by decide +kernel
theorem d9_checkOne_19 : decode b9_checkOne 19 = .ok (.iadd, 1) := by decide +kernel
theorem d9_checkOne_20 : decode b9_checkOne 20 = .ok (.invokevirtual 115, 3) := by decide +kernel
theorem d9_checkOne_23 : decode b9_checkOne 23 = .ok (.goto 4, 3) := by decide +kernel
theorem d9_checkOne_26 : decode b9_checkOne 26 = .ok (.iconst 0, 1) := by decide +kernel
theorem d9_checkOne_27 : decode b9_checkOne 27 = .ok (.istore 4, 2) := by decide +kernel
theorem d9_checkOne_29 : decode b9_checkOne 29 = .ok (.iload_n 3, 1) := by decide +kernel
theorem d9_checkOne_30 : decode b9_checkOne 30 = .ok (.ifCond .ne 10, 3) := by decide +kernel
theorem d9_checkOne_33 : decode b9_checkOne 33 = .ok (.aload_n 0, 1) := by decide +kernel
theorem d9_checkOne_34 : decode b9_checkOne 34 = .ok (.invokevirtual 151, 3) := by decide +kernel
theorem d9_checkOne_37 : decode b9_checkOne 37 = .ok (.goto 165, 3) := by decide +kernel
theorem d9_checkOne_40 : decode b9_checkOne 40 = .ok (.iload_n 3, 1) := by decide +kernel
theorem d9_checkOne_41 : decode b9_checkOne 41 = .ok (.iconst 2, 1) := by decide +kernel
theorem d9_checkOne_42 : decode b9_checkOne 42 = .ok (.if_icmp .lt 18, 3) := by decide +kernel
theorem d9_checkOne_45 : decode b9_checkOne 45 = .ok (.iload_n 3, 1) := by decide +kernel
theorem d9_checkOne_46 : decode b9_checkOne 46 = .ok (.iconst 4, 1) := by decide +kernel
theorem d9_checkOne_47 : decode b9_checkOne 47 = .ok (.if_icmp .gt 13, 3) := by decide +kernel
theorem d9_checkOne_50 : decode b9_checkOne 50 = .ok (.aload_n 0, 1) := by decide +kernel
theorem d9_checkOne_51 : decode b9_checkOne 51 = .ok (.iload_n 3, 1) := by decide +kernel
theorem d9_checkOne_52 : decode b9_checkOne 52 = .ok (.iload 4, 2) := by decide +kernel
theorem d9_checkOne_54 : decode b9_checkOne 54 = .ok (.invokevirtual 154, 3) := by decide +kernel
theorem d9_checkOne_57 : decode b9_checkOne 57 = .ok (.goto 145, 3) := by decide +kernel
theorem d9_checkOne_60 : decode b9_checkOne 60 = .ok (.iload_n 3, 1) := by decide +kernel
theorem d9_checkOne_61 : decode b9_checkOne 61 = .ok (.iconst 5, 1) := by decide +kernel
theorem d9_checkOne_62 : decode b9_checkOne 62 = .ok (.if_icmp .eq 9, 3) := by decide +kernel
theorem d9_checkOne_65 : decode b9_checkOne 65 = .ok (.iload_n 3, 1) := by decide +kernel
theorem d9_checkOne_66 : decode b9_checkOne 66 = .ok (.bipush 6, 2) := by decide +kernel
theorem d9_checkOne_68 : decode b9_checkOne 68 = .ok (.if_icmp .ne 11, 3) := by decide +kernel
theorem d9_checkOne_71 : decode b9_checkOne 71 = .ok (.aload_n 0, 1) := by decide +kernel
theorem d9_checkOne_72 : decode b9_checkOne 72 = .ok (.iload_n 3, 1) := by decide +kernel
theorem d9_checkOne_73 : decode b9_checkOne 73 = .ok (.invokevirtual 158, 3) := by decide +kernel
theorem d9_checkOne_76 : decode b9_checkOne 76 = .ok (.goto 126, 3) := by decide +kernel
theorem d9_checkOne_79 : decode b9_checkOne 79 = .ok (.iload_n 3, 1) := by decide +kernel
theorem d9_checkOne_80 : decode b9_checkOne 80 = .ok (.bipush 7, 2) := by decide +kernel
theorem d9_checkOne_82 : decode b9_checkOne 82 = .ok (.if_icmp .lt 19, 3) := by decide +kernel
theorem d9_checkOne_85 : decode b9_checkOne 85 = .ok (.iload_n 3, 1) := by decide +kernel
theorem d9_checkOne_86 : decode b9_checkOne 86 = .ok (.bipush 10, 2) := by decide +kernel
theorem d9_checkOne_88 : decode b9_checkOne 88 = .ok (.if_icmp .gt 13, 3) := by decide +kernel
theorem d9_checkOne_91 : decode b9_checkOne 91 = .ok (.aload_n 0, 1) := by decide +kernel
theorem d9_checkOne_92 : decode b9_checkOne 92 = .ok (.iload_n 1, 1) := by decide +kernel
theorem d9_checkOne_93 : decode b9_checkOne 93 = .ok (.iload_n 2, 1) := by decide +kernel
theorem d9_checkOne_94 : decode b9_checkOne 94 = .ok (.iload_n 3, 1) := by decide +kernel
theorem d9_checkOne_95 : decode b9_checkOne 95 = .ok (.invokevirtual 161, 3) := by decide +kernel
theorem d9_checkOne_98 : decode b9_checkOne 98 = .ok (.goto 104, 3) := by decide +kernel
theorem d9_checkOne_101 : decode b9_checkOne 101 = .ok (.iload_n 3, 1) := by decide +kernel
theorem d9_checkOne_102 : decode b9_checkOne 102 = .ok (.bipush 11, 2) := by decide +kernel
theorem d9_checkOne_104 : decode b9_checkOne 104 = .ok (.if_icmp .eq 9, 3) := by decide +kernel
theorem d9_checkOne_107 : decode b9_checkOne 107 = .ok (.iload_n 3, 1) := by decide +kernel
theorem d9_checkOne_108 : decode b9_checkOne 108 = .ok (.bipush 12, 2) := by decide +kernel
theorem d9_checkOne_110 : decode b9_checkOne 110 = .ok (.if_icmp .ne 13, 3) := by decide +kernel
theorem d9_checkOne_113 : decode b9_checkOne 113 = .ok (.aload_n 0, 1) := by decide +kernel
theorem d9_checkOne_114 : decode b9_checkOne 114 = .ok (.iload 4, 2) := by decide +kernel
theorem d9_checkOne_116 : decode b9_checkOne 116 = .ok (.iload_n 3, 1) := by decide +kernel
theorem d9_checkOne_117 : decode b9_checkOne 117 = .ok (.invokevirtual 165, 3) := by decide +kernel
theorem d9_checkOne_120 : decode b9_checkOne 120 = .ok (.goto 82, 3) := by decide +kernel
theorem d9_checkOne_123 : decode b9_checkOne 123 = .ok (.iload_n 3, 1) := by decide +kernel
theorem d9_checkOne_124 : decode b9_checkOne 124 = .ok (.bipush 13, 2) := by decide +kernel
theorem d9_checkOne_126 : decode b9_checkOne 126 = .ok (.if_icmp .ne 29, 3) := by decide +kernel
theorem d9_checkOne_129 : decode b9_checkOne 129 = .ok (.aload_n 0, 1) := by decide +kernel
theorem d9_checkOne_130 : decode b9_checkOne 130 = .ok (.aload_n 0, 1) := by decide +kernel
theorem d9_checkOne_131 : decode b9_checkOne 131 = .ok (.invokevirtual 131, 3) := by decide +kernel
theorem d9_checkOne_134 : decode b9_checkOne 134 = .ok (.ifCond .lt 10, 3) := by decide +kernel
theorem d9_checkOne_137 : decode b9_checkOne 137 = .ok (.aload_n 0, 1) := by decide +kernel
theorem d9_checkOne_138 : decode b9_checkOne 138 = .ok (.getfield 125, 3) := by decide +kernel
theorem d9_checkOne_141 : decode b9_checkOne 141 = .ok (.ifCond .eq 7, 3) := by decide +kernel
theorem d9_checkOne_144 : decode b9_checkOne 144 = .ok (.iconst 1, 1) := by decide +kernel
theorem d9_checkOne_145 : decode b9_checkOne 145 = .ok (.goto 4, 3) := by decide +kernel
theorem d9_checkOne_148 : decode b9_checkOne 148 = .ok (.iconst 0, 1) := by decide +kernel
theorem d9_checkOne_149 : decode b9_checkOne 149 = .ok (.putfield 125, 3) := by decide +kernel
theorem d9_checkOne_152 : decode b9_checkOne 152 = .ok (.goto 50, 3) := by decide +kernel
theorem d9_checkOne_155 : decode b9_checkOne 155 = .ok (.iload_n 3, 1) := by decide +kernel
theorem d9_checkOne_156 : decode b9_checkOne 156 = .ok (.bipush 14, 2) := by decide +kernel
theorem d9_checkOne_158 : decode b9_checkOne 158 = .ok (.if_icmp .ne 10, 3) := by decide +kernel
theorem d9_checkOne_161 : decode b9_checkOne 161 = .ok (.aload_n 0, 1) := by decide +kernel
theorem d9_checkOne_162 : decode b9_checkOne 162 = .ok (.invokevirtual 168, 3) := by decide +kernel
theorem d9_checkOne_165 : decode b9_checkOne 165 = .ok (.goto 37, 3) := by decide +kernel
theorem d9_checkOne_168 : decode b9_checkOne 168 = .ok (.iload_n 3, 1) := by decide +kernel
theorem d9_checkOne_169 : decode b9_checkOne 169 = .ok (.bipush 15, 2) := by decide +kernel
theorem d9_checkOne_171 : decode b9_checkOne 171 = .ok (.if_icmp .lt 20, 3) := by decide +kernel
theorem d9_checkOne_174 : decode b9_checkOne 174 = .ok (.iload_n 3, 1) := by decide +kernel
theorem d9_checkOne_175 : decode b9_checkOne 175 = .ok (.bipush 19, 2) := by decide +kernel
theorem d9_checkOne_177 : decode b9_checkOne 177 = .ok (.if_icmp .gt 14, 3) := by decide +kernel
theorem d9_checkOne_180 : decode b9_checkOne 180 = .ok (.aload_n 0, 1) := by decide +kernel
theorem d9_checkOne_181 : decode b9_checkOne 181 = .ok (.iload_n 1, 1) := by decide +kernel
theorem d9_checkOne_182 : decode b9_checkOne 182 = .ok (.iload_n 3, 1) := by decide +kernel
theorem d9_checkOne_183 : decode b9_checkOne 183 = .ok (.iload 4, 2) := by decide +kernel
theorem d9_checkOne_185 : decode b9_checkOne 185 = .ok (.invokevirtual 171, 3) := by decide +kernel
theorem d9_checkOne_188 : decode b9_checkOne 188 = .ok (.goto 14, 3) := by decide +kernel
theorem d9_checkOne_191 : decode b9_checkOne 191 = .ok (.iload_n 3, 1) := by decide +kernel
theorem d9_checkOne_192 : decode b9_checkOne 192 = .ok (.bipush 19, 2) := by decide +kernel
theorem d9_checkOne_194 : decode b9_checkOne 194 = .ok (.if_icmp .le 8, 3) := by decide +kernel
theorem d9_checkOne_197 : decode b9_checkOne 197 = .ok (.aload_n 0, 1) := by decide +kernel
theorem d9_checkOne_198 : decode b9_checkOne 198 = .ok (.iload_n 3, 1) := by decide +kernel
theorem d9_checkOne_199 : decode b9_checkOne 199 = .ok (.invokevirtual 174, 3) := by decide +kernel
theorem d9_checkOne_202 : decode b9_checkOne 202 = .ok (.return_, 1) := by decide +kernel
theorem d9_find_0 : decode b9_find 0 = .ok (.aload_n 0, 1) := by decide +kernel
theorem d9_find_1 : decode b9_find 1 = .ok (.iconst 0, 1) := by decide +kernel
theorem d9_find_2 : decode b9_find 2 = .ok (.putfield 128, 3) := by decide +kernel
theorem d9_find_5 : decode b9_find 5 = .ok (.aload_n 0, 1) := by decide +kernel
theorem d9_find_6 : decode b9_find 6 = .ok (.iconst 0, 1) := by decide +kernel
theorem d9_find_7 : decode b9_find 7 = .ok (.putfield 122, 3) := by decide +kernel
theorem d9_find_10 : decode b9_find 10 = .ok (.aload_n 0, 1) := by decide +kernel
theorem d9_find_11 : decode b9_find 11 = .ok (.iconst 0, 1) := by decide +kernel
theorem d9_find_12 : decode b9_find 12 = .ok (.putfield 125, 3) := by decide +kernel
theorem d9_find_15 : decode b9_find 15 = .ok (.aload_n 0, 1) := by decide +kernel
theorem d9_find_16 : decode b9_find 16 = .ok (.iconst 0, 1) := by decide +kernel
theorem d9_find_17 : decode b9_find 17 = .ok (.aload_n 0, 1) := by decide +kernel
theorem d9_find_18 : decode b9_find 18 = .ok (.getfield 19, 3) := by decide +kernel
theorem d9_find_21 : decode b9_find 21 = .ok (.iload_n 1, 1) := by decide +kernel
theorem d9_find_22 : decode b9_find 22 = .ok (.iaload, 1) := by decide +kernel
theorem d9_find_23 : decode b9_find 23 = .ok (.invokevirtual 154, 3) := by decide +kernel
theorem d9_find_26 : decode b9_find 26 = .ok (.iconst 0, 1) := by decide +kernel
theorem d9_find_27 : decode b9_find 27 = .ok (.istore_n 2, 1) := by decide +kernel
theorem d9_find_28 : decode b9_find 28 = .ok (.iload_n 2, 1) := by decide +kernel
theorem d9_find_29 : decode b9_find 29 = .ok (.aload_n 0, 1) := by decide +kernel
theorem d9_find_30 : decode b9_find 30 = .ok (.getfield 25, 3) := by decide +kernel
theorem d9_find_33 : decode b9_find 33 = .ok (.iload_n 1, 1) := by decide +kernel
theorem d9_find_34 : decode b9_find 34 = .ok (.iaload, 1) := by decide +kernel
theorem d9_find_35 : decode b9_find 35 = .ok (.if_icmp .ge 107, 3) := by decide +kernel
theorem d9_find_38 : decode b9_find 38 = .ok (.aload_n 0, 1) := by decide +kernel
theorem d9_find_39 : decode b9_find 39 = .ok (.iload_n 1, 1) := by decide +kernel
theorem d9_find_40 : decode b9_find 40 = .ok (.iload_n 2, 1) := by decide +kernel
theorem d9_find_41 : decode b9_find 41 = .ok (.invokevirtual 115, 3) := by decide +kernel
theorem d9_find_44 : decode b9_find 44 = .ok (.istore_n 3, 1) := by decide +kernel
theorem d9_find_45 : decode b9_find 45 = .ok (.aload_n 0, 1) := by decide +kernel
theorem d9_find_46 : decode b9_find 46 = .ok (.getfield 128, 3) := by decide +kernel
theorem d9_find_49 : decode b9_find 49 = .ok (.ifCond .eq 40, 3) := by decide +kernel
theorem d9_find_52 : decode b9_find 52 = .ok (.iload_n 3, 1) := by decide +kernel
theorem d9_find_53 : decode b9_find 53 = .ok (.invokestatic 177, 3) := by decide +kernel
theorem d9_find_56 : decode b9_find 56 = .ok (.ifCond .eq 33, 3) := by decide +kernel
theorem d9_find_59 : decode b9_find 59 = .ok (.iload_n 3, 1) := by decide +kernel
theorem d9_find_60 : decode b9_find 60 = .ok (.bipush 9, 2) := by decide +kernel
theorem d9_find_62 : decode b9_find 62 = .ok (.if_icmp .ne 29, 3) := by decide +kernel
theorem d9_find_65 : decode b9_find 65 = .ok (.iload_n 2, 1) := by decide +kernel
theorem d9_find_66 : decode b9_find 66 = .ok (.iconst 1, 1) := by decide +kernel
theorem d9_find_67 : decode b9_find 67 = .ok (.iadd, 1) := by decide +kernel
theorem d9_find_68 : decode b9_find 68 = .ok (.aload_n 0, 1) := by decide +kernel
theorem d9_find_69 : decode b9_find 69 = .ok (.getfield 25, 3) := by decide +kernel
theorem d9_find_72 : decode b9_find 72 = .ok (.iload_n 1, 1) := by decide +kernel
theorem d9_find_73 : decode b9_find 73 = .ok (.iaload, 1) := by decide +kernel
theorem d9_find_74 : decode b9_find 74 = .ok (.if_icmp .ge 17, 3) := by decide +kernel
theorem d9_find_77 : decode b9_find 77 = .ok (.aload_n 0, 1) := by decide +kernel
theorem d9_find_78 : decode b9_find 78 = .ok (.iload_n 1, 1) := by decide +kernel
theorem d9_find_79 : decode b9_find 79 = .ok (.iload_n 2, 1) := by decide +kernel
theorem d9_find_80 : decode b9_find 80 = .ok (.iconst 1, 1) := by decide +kernel
theorem d9_find_81 : decode b9_find 81 = .ok (.iadd, 1) := by decide +kernel
theorem d9_find_82 : decode b9_find 82 = .ok (.invokevirtual 115, 3) := by decide +kernel
theorem d9_find_85 : decode b9_find 85 = .ok (.iconst 3, 1) := by decide +kernel
theorem d9_find_86 : decode b9_find 86 = .ok (.if_icmp .le 5, 3) := by decide +kernel
theorem d9_find_89 : decode b9_find 89 = .ok (.iload_n 2, 1) := by decide +kernel
theorem d9_find_90 : decode b9_find 90 = .ok (.ireturn, 1) := by decide +kernel
theorem d9_find_91 : decode b9_find 91 = .ok (.iload_n 2, 1) := by decide +kernel
theorem d9_find_92 : decode b9_find 92 = .ok (.iconst 1, 1) := by decide +kernel
theorem d9_find_93 : decode b9_find 93 = .ok (.iadd, 1) := by decide +kernel
theorem d9_find_94 : decode b9_find 94 = .ok (.aload_n 0, 1) := by decide +kernel
theorem d9_find_95 : decode b9_find 95 = .ok (.iload_n 1, 1) := by decide +kernel
theorem d9_find_96 : decode b9_find 96 = .ok (.iload_n 2, 1) := by decide +kernel
theorem d9_find_97 : decode b9_find 97 = .ok (.invokevirtual 119, 3) := by decide +kernel
theorem d9_find_100 : decode b9_find 100 = .ok (.iadd, 1) := by decide +kernel
theorem d9_find_101 : decode b9_find 101 = .ok (.istore 4, 2) := by decide +kernel
theorem d9_find_103 : decode b9_find 103 = .ok (.iload 4, 2) := by decide +kernel
theorem d9_find_105 : decode b9_find 105 = .ok (.aload_n 0, 1) := by decide +kernel
theorem d9_find_106 : decode b9_find 106 = .ok (.getfield 25, 3) := by decide +kernel
theorem d9_find_109 : decode b9_find 109 = .ok (.iload_n 1, 1) := by decide +kernel
theorem d9_find_110 : decode b9_find 110 = .ok (.iaload, 1) := by decide +kernel
theorem d9_find_111 : decode b9_find 111 = .ok (.if_icmp .le 10, 3) := by decide +kernel
theorem d9_find_114 : decode b9_find 114 = .ok (.aload_n 0, 1) := by decide +kernel
theorem d9_find_115 : decode b9_find 115 = .ok (.getfield 25, 3) := by decide +kernel
theorem d9_find_118 : decode b9_find 118 = .ok (.iload_n 1, 1) := by decide +kernel
theorem d9_find_119 : decode b9_find 119 = .ok (.iaload, 1) := by decide +kernel
theorem d9_find_120 : decode b9_find 120 = .ok (.ireturn, 1) := by decide +kernel
theorem d9_find_121 : decode b9_find 121 = .ok (.aload_n 0, 1) := by decide +kernel
theorem d9_find_122 : decode b9_find 122 = .ok (.iload_n 1, 1) := by decide +kernel
theorem d9_find_123 : decode b9_find 123 = .ok (.iload_n 2, 1) := by decide +kernel
theorem d9_find_124 : decode b9_find 124 = .ok (.invokevirtual 181, 3) := by decide +kernel
theorem d9_find_127 : decode b9_find 127 = .ok (.aload_n 0, 1) := by decide +kernel
theorem d9_find_128 : decode b9_find 128 = .ok (.getfield 125, 3) := by decide +kernel
theorem d9_find_131 : decode b9_find 131 = .ok (.ifCond .eq 5, 3) := by decide +kernel
theorem d9_find_134 : decode b9_find 134 = .ok (.iload_n 2, 1) := by decide +kernel
theorem d9_find_135 : decode b9_find 135 = .ok (.ireturn, 1) := by decide +kernel
theorem d9_find_136 : decode b9_find 136 = .ok (.iload 4, 2) := by decide +kernel
theorem d9_find_138 : decode b9_find 138 = .ok (.istore_n 2, 1) := by decide +kernel
theorem d9_find_139 : decode b9_find 139 = .ok (.goto (-111), 3) := by decide +kernel
theorem d9_find_142 : decode b9_find 142 = .ok (.aload_n 0, 1) := by decide +kernel
theorem d9_find_143 : decode b9_find 143 = .ok (.getfield 128, 3) := by decide +kernel
theorem d9_find_146 : decode b9_find 146 = .ok (.ifCond .ne 7, 3) := by decide +kernel
theorem d9_find_149 : decode b9_find 149 = .ok (.iconst (-1), 1) := by decide +kernel
theorem d9_find_150 : decode b9_find 150 = .ok (.goto 9, 3) := by decide +kernel
theorem d9_find_153 : decode b9_find 153 = .ok (.aload_n 0, 1) := by decide +kernel
theorem d9_find_154 : decode b9_find 154 = .ok (.getfield 25, 3) := by decide +kernel
theorem d9_find_157 : decode b9_find 157 = .ok (.iload_n 1, 1) := by decide +kernel
theorem d9_find_158 : decode b9_find 158 = .ok (.iaload, 1) := by decide +kernel
theorem d9_find_159 : decode b9_find 159 = .ok (.ireturn, 1) := by decide +kernel
theorem d9_check_0 : decode b9_check 0 = .ok (.aload_n 0, 1) := by decide +kernel
theorem d9_check_1 : decode b9_check 1 = .ok (.aload_n 0, 1) := by decide +kernel
theorem d9_check_2 : decode b9_check 2 = .ok (.getfield 104, 3) := by decide +kernel
theorem d9_check_5 : decode b9_check 5 = .ok (.iconst 1, 1) := by decide +kernel
theorem d9_check_6 : decode b9_check 6 = .ok (.if_icmp .eq 7, 3) := by decide +kernel
theorem d9_check_9 : decode b9_check 9 = .ok (.iconst 1, 1) := by decide +kernel
theorem d9_check_10 : decode b9_check 10 = .ok (.goto 4, 3) := by decide +kernel
theorem d9_check_13 : decode b9_check 13 = .ok (.iconst 0, 1) := by decide +kernel
theorem d9_check_14 : decode b9_check 14 = .ok (.iconst 1, 1) := by decide +kernel
theorem d9_check_15 : decode b9_check 15 = .ok (.invokevirtual 100, 3) := by decide +kernel
theorem d9_check_18 : decode b9_check 18 = .ok (.ifCond .ne 5, 3) := by decide +kernel
theorem d9_check_21 : decode b9_check 21 = .ok (.iconst 0, 1) := by decide +kernel
theorem d9_check_22 : decode b9_check 22 = .ok (.ireturn, 1) := by decide +kernel
theorem d9_check_23 : decode b9_check 23 = .ok (.iconst 0, 1) := by decide +kernel
theorem d9_check_24 : decode b9_check 24 = .ok (.istore_n 1, 1) := by decide +kernel
theorem d9_check_25 : decode b9_check 25 = .ok (.iconst 0, 1) := by decide +kernel
theorem d9_check_26 : decode b9_check 26 = .ok (.istore_n 2, 1) := by decide +kernel
theorem d9_check_27 : decode b9_check 27 = .ok (.iload_n 2, 1) := by decide +kernel
theorem d9_check_28 : decode b9_check 28 = .ok (.bipush 6, 2) := by decide +kernel
theorem d9_check_30 : decode b9_check 30 = .ok (.if_icmp .ge 44, 3) := by decide +kernel
theorem d9_check_33 : decode b9_check 33 = .ok (.aload_n 0, 1) := by decide +kernel
theorem d9_check_34 : decode b9_check 34 = .ok (.getfield 25, 3) := by decide +kernel
theorem d9_check_37 : decode b9_check 37 = .ok (.iload_n 2, 1) := by decide +kernel
theorem d9_check_38 : decode b9_check 38 = .ok (.iaload, 1) := by decide +kernel
theorem d9_check_39 : decode b9_check 39 = .ok (.ifCond .le 29, 3) := by decide +kernel
theorem d9_check_42 : decode b9_check 42 = .ok (.iinc 1 1, 3) := by decide +kernel
theorem d9_check_45 : decode b9_check 45 = .ok (.aload_n 0, 1) := by decide +kernel
theorem d9_check_46 : decode b9_check 46 = .ok (.aload_n 0, 1) := by decide +kernel
theorem d9_check_47 : decode b9_check 47 = .ok (.iload_n 2, 1) := by decide +kernel
theorem d9_check_48 : decode b9_check 48 = .ok (.invokevirtual 184, 3) := by decide +kernel
theorem d9_check_51 : decode b9_check 51 = .ok (.ifCond .ge 7, 3) := by decide +kernel
theorem d9_check_54 : decode b9_check 54 = .ok (.iconst 1, 1) := by decide +kernel
theorem d9_check_55 : decode b9_check 55 = .ok (.goto 4, 3) := by decide +kernel
theorem d9_check_58 : decode b9_check 58 = .ok (.iconst 0, 1) := by decide +kernel
theorem d9_check_59 : decode b9_check 59 = .ok (.iconst 2, 1) := by decide +kernel
theorem d9_check_60 : decode b9_check 60 = .ok (.invokevirtual 100, 3) := by decide +kernel
theorem d9_check_63 : decode b9_check 63 = .ok (.ifCond .ne 5, 3) := by decide +kernel
theorem d9_check_66 : decode b9_check 66 = .ok (.iconst 0, 1) := by decide +kernel
theorem d9_check_67 : decode b9_check 67 = .ok (.ireturn, 1) := by decide +kernel
theorem d9_check_68 : decode b9_check 68 = .ok (.iinc 2 1, 3) := by decide +kernel
theorem d9_check_71 : decode b9_check 71 = .ok (.goto (-44), 3) := by decide +kernel
theorem d9_check_74 : decode b9_check 74 = .ok (.aload_n 0, 1) := by decide +kernel
theorem d9_check_75 : decode b9_check 75 = .ok (.iconst 1, 1) := by decide +kernel
theorem d9_check_76 : decode b9_check 76 = .ok (.putfield 111, 3) := by decide +kernel
theorem d9_check_79 : decode b9_check 79 = .ok (.iload_n 1, 1) := by decide +kernel
theorem d9_check_80 : decode b9_check 80 = .ok (.ireturn, 1) := by decide +kernel
theorem d9_fault_0 : decode b9_fault 0 = .ok (.aload_n 0, 1) := by decide +kernel
theorem d9_fault_1 : decode b9_fault 1 = .ok (.iload_n 1, 1) := by decide +kernel
theorem d9_fault_2 : decode b9_fault 2 = .ok (.iconst 0, 1) := by decide +kernel
theorem d9_fault_3 : decode b9_fault 3 = .ok (.iconst 5, 1) := by decide +kernel
theorem d9_fault_4 : decode b9_fault 4 = .ok (.invokestatic 92, 3) := by decide +kernel
theorem d9_fault_7 : decode b9_fault 7 = .ok (.iconst 1, 1) := by decide +kernel
theorem d9_fault_8 : decode b9_fault 8 = .ok (.invokevirtual 100, 3) := by decide +kernel
theorem d9_fault_11 : decode b9_fault 11 = .ok (.ifCond .ne 5, 3) := by decide +kernel
theorem d9_fault_14 : decode b9_fault 14 = .ok (.iconst 0, 1) := by decide +kernel
theorem d9_fault_15 : decode b9_fault 15 = .ok (.ireturn, 1) := by decide +kernel
theorem d9_fault_16 : decode b9_fault 16 = .ok (.aload_n 0, 1) := by decide +kernel
theorem d9_fault_17 : decode b9_fault 17 = .ok (.getfield 122, 3) := by decide +kernel
theorem d9_fault_20 : decode b9_fault 20 = .ok (.istore_n 2, 1) := by decide +kernel
theorem d9_fault_21 : decode b9_fault 21 = .ok (.aload_n 0, 1) := by decide +kernel
theorem d9_fault_22 : decode b9_fault 22 = .ok (.getfield 128, 3) := by decide +kernel
theorem d9_fault_25 : decode b9_fault 25 = .ok (.istore_n 3, 1) := by decide +kernel
theorem d9_fault_26 : decode b9_fault 26 = .ok (.aload_n 0, 1) := by decide +kernel
theorem d9_fault_27 : decode b9_fault 27 = .ok (.getfield 104, 3) := by decide +kernel
theorem d9_fault_30 : decode b9_fault 30 = .ok (.iconst 1, 1) := by decide +kernel
theorem d9_fault_31 : decode b9_fault 31 = .ok (.if_icmp .eq 9, 3) := by decide +kernel
theorem d9_fault_34 : decode b9_fault 34 = .ok (.aload_n 0, 1) := by decide +kernel
theorem d9_fault_35 : decode b9_fault 35 = .ok (.iload_n 1, 1) := by decide +kernel
theorem d9_fault_36 : decode b9_fault 36 = .ok (.invokevirtual 184, 3) := by decide +kernel
theorem d9_fault_39 : decode b9_fault 39 = .ok (.ireturn, 1) := by decide +kernel
theorem d9_fault_40 : decode b9_fault 40 = .ok (.iconst 0, 1) := by decide +kernel
theorem d9_fault_41 : decode b9_fault 41 = .ok (.istore 4, 2) := by decide +kernel
theorem d9_fault_43 : decode b9_fault 43 = .ok (.iload 4, 2) := by decide +kernel
theorem d9_fault_45 : decode b9_fault 45 = .ok (.bipush 60, 2) := by decide +kernel
theorem d9_fault_47 : decode b9_fault 47 = .ok (.if_icmp .ge 57, 3) := by decide +kernel
theorem d9_fault_50 : decode b9_fault 50 = .ok (.aload_n 0, 1) := by decide +kernel
theorem d9_fault_51 : decode b9_fault 51 = .ok (.getfield 85, 3) := by decide +kernel
theorem d9_fault_54 : decode b9_fault 54 = .ok (.iload 4, 2) := by decide +kernel
theorem d9_fault_56 : decode b9_fault 56 = .ok (.aload_n 0, 1) := by decide +kernel
theorem d9_fault_57 : decode b9_fault 57 = .ok (.getfield 44, 3) := by decide +kernel
theorem d9_fault_60 : decode b9_fault 60 = .ok (.iload 4, 2) := by decide +kernel
theorem d9_fault_62 : decode b9_fault 62 = .ok (.iaload, 1) := by decide +kernel
theorem d9_fault_63 : decode b9_fault 63 = .ok (.iastore, 1) := by decide +kernel
theorem d9_fault_64 : decode b9_fault 64 = .ok (.aload_n 0, 1) := by decide +kernel
theorem d9_fault_65 : decode b9_fault 65 = .ok (.getfield 85, 3) := by decide +kernel
theorem d9_fault_68 : decode b9_fault 68 = .ok (.bipush 60, 2) := by decide +kernel
theorem d9_fault_70 : decode b9_fault 70 = .ok (.iload 4, 2) := by decide +kernel
theorem d9_fault_72 : decode b9_fault 72 = .ok (.iadd, 1) := by decide +kernel
theorem d9_fault_73 : decode b9_fault 73 = .ok (.aload_n 0, 1) := by decide +kernel
theorem d9_fault_74 : decode b9_fault 74 = .ok (.getfield 47, 3) := by decide +kernel
theorem d9_fault_77 : decode b9_fault 77 = .ok (.iload 4, 2) := by decide +kernel
theorem d9_fault_79 : decode b9_fault 79 = .ok (.iaload, 1) := by decide +kernel
theorem d9_fault_80 : decode b9_fault 80 = .ok (.iastore, 1) := by decide +kernel
theorem d9_fault_81 : decode b9_fault 81 = .ok (.aload_n 0, 1) := by decide +kernel
theorem d9_fault_82 : decode b9_fault 82 = .ok (.getfield 85, 3) := by decide +kernel
theorem d9_fault_85 : decode b9_fault 85 = .ok (.bipush 120, 2) := by decide +kernel
theorem d9_fault_87 : decode b9_fault 87 = .ok (.iload 4, 2) := by decide +kernel
theorem d9_fault_89 : decode b9_fault 89 = .ok (.iadd, 1) := by decide +kernel
theorem d9_fault_90 : decode b9_fault 90 = .ok (.aload_n 0, 1) := by decide +kernel
theorem d9_fault_91 : decode b9_fault 91 = .ok (.getfield 50, 3) := by decide +kernel
theorem d9_fault_94 : decode b9_fault 94 = .ok (.iload 4, 2) := by decide +kernel
theorem d9_fault_96 : decode b9_fault 96 = .ok (.iaload, 1) := by decide +kernel
theorem d9_fault_97 : decode b9_fault 97 = .ok (.iastore, 1) := by decide +kernel
theorem d9_fault_98 : decode b9_fault 98 = .ok (.iinc 4 1, 3) := by decide +kernel
theorem d9_fault_101 : decode b9_fault 101 = .ok (.goto (-58), 3) := by decide +kernel
theorem d9_fault_104 : decode b9_fault 104 = .ok (.aload_n 0, 1) := by decide +kernel
theorem d9_fault_105 : decode b9_fault 105 = .ok (.iload_n 1, 1) := by decide +kernel
theorem d9_fault_106 : decode b9_fault 106 = .ok (.invokevirtual 184, 3) := by decide +kernel
theorem d9_fault_109 : decode b9_fault 109 = .ok (.istore 4, 2) := by decide +kernel
theorem d9_fault_111 : decode b9_fault 111 = .ok (.iconst 0, 1) := by decide +kernel
theorem d9_fault_112 : decode b9_fault 112 = .ok (.istore 5, 2) := by decide +kernel
theorem d9_fault_114 : decode b9_fault 114 = .ok (.iload 5, 2) := by decide +kernel
theorem d9_fault_116 : decode b9_fault 116 = .ok (.bipush 60, 2) := by decide +kernel
theorem d9_fault_118 : decode b9_fault 118 = .ok (.if_icmp .ge 57, 3) := by decide +kernel
theorem d9_fault_121 : decode b9_fault 121 = .ok (.aload_n 0, 1) := by decide +kernel
theorem d9_fault_122 : decode b9_fault 122 = .ok (.getfield 44, 3) := by decide +kernel
theorem d9_fault_125 : decode b9_fault 125 = .ok (.iload 5, 2) := by decide +kernel
theorem d9_fault_127 : decode b9_fault 127 = .ok (.aload_n 0, 1) := by decide +kernel
theorem d9_fault_128 : decode b9_fault 128 = .ok (.getfield 85, 3) := by decide +kernel
theorem d9_fault_131 : decode b9_fault 131 = .ok (.iload 5, 2) := by decide +kernel
theorem d9_fault_133 : decode b9_fault 133 = .ok (.iaload, 1) := by decide +kernel
theorem d9_fault_134 : decode b9_fault 134 = .ok (.iastore, 1) := by decide +kernel
theorem d9_fault_135 : decode b9_fault 135 = .ok (.aload_n 0, 1) := by decide +kernel
theorem d9_fault_136 : decode b9_fault 136 = .ok (.getfield 47, 3) := by decide +kernel
theorem d9_fault_139 : decode b9_fault 139 = .ok (.iload 5, 2) := by decide +kernel
theorem d9_fault_141 : decode b9_fault 141 = .ok (.aload_n 0, 1) := by decide +kernel
theorem d9_fault_142 : decode b9_fault 142 = .ok (.getfield 85, 3) := by decide +kernel
theorem d9_fault_145 : decode b9_fault 145 = .ok (.bipush 60, 2) := by decide +kernel
theorem d9_fault_147 : decode b9_fault 147 = .ok (.iload 5, 2) := by decide +kernel
theorem d9_fault_149 : decode b9_fault 149 = .ok (.iadd, 1) := by decide +kernel
theorem d9_fault_150 : decode b9_fault 150 = .ok (.iaload, 1) := by decide +kernel
theorem d9_fault_151 : decode b9_fault 151 = .ok (.iastore, 1) := by decide +kernel
theorem d9_fault_152 : decode b9_fault 152 = .ok (.aload_n 0, 1) := by decide +kernel
theorem d9_fault_153 : decode b9_fault 153 = .ok (.getfield 50, 3) := by decide +kernel
theorem d9_fault_156 : decode b9_fault 156 = .ok (.iload 5, 2) := by decide +kernel
theorem d9_fault_158 : decode b9_fault 158 = .ok (.aload_n 0, 1) := by decide +kernel
theorem d9_fault_159 : decode b9_fault 159 = .ok (.getfield 85, 3) := by decide +kernel
theorem d9_fault_162 : decode b9_fault 162 = .ok (.bipush 120, 2) := by decide +kernel
theorem d9_fault_164 : decode b9_fault 164 = .ok (.iload 5, 2) := by decide +kernel
theorem d9_fault_166 : decode b9_fault 166 = .ok (.iadd, 1) := by decide +kernel
theorem d9_fault_167 : decode b9_fault 167 = .ok (.iaload, 1) := by decide +kernel
theorem d9_fault_168 : decode b9_fault 168 = .ok (.iastore, 1) := by decide +kernel
theorem d9_fault_169 : decode b9_fault 169 = .ok (.iinc 5 1, 3) := by decide +kernel
theorem d9_fault_172 : decode b9_fault 172 = .ok (.goto (-58), 3) := by decide +kernel
theorem d9_fault_175 : decode b9_fault 175 = .ok (.aload_n 0, 1) := by decide +kernel
theorem d9_fault_176 : decode b9_fault 176 = .ok (.iload_n 2, 1) := by decide +kernel
theorem d9_fault_177 : decode b9_fault 177 = .ok (.putfield 122, 3) := by decide +kernel
theorem d9_fault_180 : decode b9_fault 180 = .ok (.aload_n 0, 1) := by decide +kernel
theorem d9_fault_181 : decode b9_fault 181 = .ok (.iload_n 3, 1) := by decide +kernel
theorem d9_fault_182 : decode b9_fault 182 = .ok (.putfield 128, 3) := by decide +kernel
theorem d9_fault_185 : decode b9_fault 185 = .ok (.iload 4, 2) := by decide +kernel
theorem d9_fault_187 : decode b9_fault 187 = .ok (.ireturn, 1) := by decide +kernel
theorem d9_argue_0 : decode b9_argue 0 = .ok (.aload_n 0, 1) := by decide +kernel
theorem d9_argue_1 : decode b9_argue 1 = .ok (.aload_n 0, 1) := by decide +kernel
theorem d9_argue_2 : decode b9_argue 2 = .ok (.getfield 187, 3) := by decide +kernel
theorem d9_argue_5 : decode b9_argue 5 = .ok (.iconst 3, 1) := by decide +kernel
theorem d9_argue_6 : decode b9_argue 6 = .ok (.if_icmp .ge 7, 3) := by decide +kernel
theorem d9_argue_9 : decode b9_argue 9 = .ok (.iconst 1, 1) := by decide +kernel
theorem d9_argue_10 : decode b9_argue 10 = .ok (.goto 4, 3) := by decide +kernel
theorem d9_argue_13 : decode b9_argue 13 = .ok (.iconst 0, 1) := by decide +kernel
theorem d9_argue_14 : decode b9_argue 14 = .ok (.iconst 1, 1) := by decide +kernel
theorem d9_argue_15 : decode b9_argue 15 = .ok (.invokevirtual 100, 3) := by decide +kernel
theorem d9_argue_18 : decode b9_argue 18 = .ok (.ifCond .ne 5, 3) := by decide +kernel
theorem d9_argue_21 : decode b9_argue 21 = .ok (.iconst 0, 1) := by decide +kernel
theorem d9_argue_22 : decode b9_argue 22 = .ok (.ireturn, 1) := by decide +kernel
theorem d9_argue_23 : decode b9_argue 23 = .ok (.aload_n 0, 1) := by decide +kernel
theorem d9_argue_24 : decode b9_argue 24 = .ok (.getfield 38, 3) := by decide +kernel
theorem d9_argue_27 : decode b9_argue 27 = .ok (.aload_n 0, 1) := by decide +kernel
theorem d9_argue_28 : decode b9_argue 28 = .ok (.getfield 187, 3) := by decide +kernel
theorem d9_argue_31 : decode b9_argue 31 = .ok (.iload_n 1, 1) := by decide +kernel
theorem d9_argue_32 : decode b9_argue 32 = .ok (.iastore, 1) := by decide +kernel
theorem d9_argue_33 : decode b9_argue 33 = .ok (.aload_n 0, 1) := by decide +kernel
theorem d9_argue_34 : decode b9_argue 34 = .ok (.dup, 1) := by decide +kernel
theorem d9_argue_35 : decode b9_argue 35 = .ok (.getfield 187, 3) := by decide +kernel
theorem d9_argue_38 : decode b9_argue 38 = .ok (.iconst 1, 1) := by decide +kernel
theorem d9_argue_39 : decode b9_argue 39 = .ok (.iadd, 1) := by decide +kernel
theorem d9_argue_40 : decode b9_argue 40 = .ok (.putfield 187, 3) := by decide +kernel
theorem d9_argue_43 : decode b9_argue 43 = .ok (.aload_n 0, 1) := by decide +kernel
theorem d9_argue_44 : decode b9_argue 44 = .ok (.getfield 187, 3) := by decide +kernel
theorem d9_argue_47 : decode b9_argue 47 = .ok (.ireturn, 1) := by decide +kernel
theorem d9_enter_0 : decode b9_enter 0 = .ok (.aload_n 0, 1) := by decide +kernel
theorem d9_enter_1 : decode b9_enter 1 = .ok (.getfield 76, 3) := by decide +kernel
theorem d9_enter_4 : decode b9_enter 4 = .ok (.aload_n 0, 1) := by decide +kernel
theorem d9_enter_5 : decode b9_enter 5 = .ok (.getfield 190, 3) := by decide +kernel
theorem d9_enter_8 : decode b9_enter 8 = .ok (.iload_n 1, 1) := by decide +kernel
theorem d9_enter_9 : decode b9_enter 9 = .ok (.iastore, 1) := by decide +kernel
theorem d9_enter_10 : decode b9_enter 10 = .ok (.aload_n 0, 1) := by decide +kernel
theorem d9_enter_11 : decode b9_enter 11 = .ok (.getfield 79, 3) := by decide +kernel
theorem d9_enter_14 : decode b9_enter 14 = .ok (.aload_n 0, 1) := by decide +kernel
theorem d9_enter_15 : decode b9_enter 15 = .ok (.getfield 190, 3) := by decide +kernel
theorem d9_enter_18 : decode b9_enter 18 = .ok (.iload_n 2, 1) := by decide +kernel
theorem d9_enter_19 : decode b9_enter 19 = .ok (.iastore, 1) := by decide +kernel
theorem d9_enter_20 : decode b9_enter 20 = .ok (.aload_n 0, 1) := by decide +kernel
theorem d9_enter_21 : decode b9_enter 21 = .ok (.getfield 82, 3) := by decide +kernel
theorem d9_enter_24 : decode b9_enter 24 = .ok (.aload_n 0, 1) := by decide +kernel
theorem d9_enter_25 : decode b9_enter 25 = .ok (.getfield 190, 3) := by decide +kernel
theorem d9_enter_28 : decode b9_enter 28 = .ok (.aload_n 0, 1) := by decide +kernel
theorem d9_enter_29 : decode b9_enter 29 = .ok (.getfield 128, 3) := by decide +kernel
theorem d9_enter_32 : decode b9_enter 32 = .ok (.iastore, 1) := by decide +kernel
theorem d9_enter_33 : decode b9_enter 33 = .ok (.aload_n 0, 1) := by decide +kernel
theorem d9_enter_34 : decode b9_enter 34 = .ok (.dup, 1) := by decide +kernel
theorem d9_enter_35 : decode b9_enter 35 = .ok (.getfield 190, 3) := by decide +kernel
theorem d9_enter_38 : decode b9_enter 38 = .ok (.iconst 1, 1) := by decide +kernel
theorem d9_enter_39 : decode b9_enter 39 = .ok (.iadd, 1) := by decide +kernel
theorem d9_enter_40 : decode b9_enter 40 = .ok (.putfield 190, 3) := by decide +kernel
theorem d9_enter_43 : decode b9_enter 43 = .ok (.aload_n 0, 1) := by decide +kernel
theorem d9_enter_44 : decode b9_enter 44 = .ok (.getfield 44, 3) := by decide +kernel
theorem d9_enter_47 : decode b9_enter 47 = .ok (.aload_n 0, 1) := by decide +kernel
theorem d9_enter_48 : decode b9_enter 48 = .ok (.getfield 128, 3) := by decide +kernel
theorem d9_enter_51 : decode b9_enter 51 = .ok (.iconst 0, 1) := by decide +kernel
theorem d9_enter_52 : decode b9_enter 52 = .ok (.iastore, 1) := by decide +kernel
theorem d9_enter_53 : decode b9_enter 53 = .ok (.aload_n 0, 1) := by decide +kernel
theorem d9_enter_54 : decode b9_enter 54 = .ok (.getfield 47, 3) := by decide +kernel
theorem d9_enter_57 : decode b9_enter 57 = .ok (.aload_n 0, 1) := by decide +kernel
theorem d9_enter_58 : decode b9_enter 58 = .ok (.getfield 128, 3) := by decide +kernel
theorem d9_enter_61 : decode b9_enter 61 = .ok (.aload_n 0, 1) := by decide +kernel
theorem d9_enter_62 : decode b9_enter 62 = .ok (.getfield 19, 3) := by decide +kernel
theorem d9_enter_65 : decode b9_enter 65 = .ok (.iload_n 1, 1) := by decide +kernel
theorem d9_enter_66 : decode b9_enter 66 = .ok (.iaload, 1) := by decide +kernel
theorem d9_enter_67 : decode b9_enter 67 = .ok (.iastore, 1) := by decide +kernel
theorem d9_enter_68 : decode b9_enter 68 = .ok (.aload_n 0, 1) := by decide +kernel
theorem d9_enter_69 : decode b9_enter 69 = .ok (.getfield 50, 3) := by decide +kernel
theorem d9_enter_72 : decode b9_enter 72 = .ok (.aload_n 0, 1) := by decide +kernel
theorem d9_enter_73 : decode b9_enter 73 = .ok (.getfield 128, 3) := by decide +kernel
theorem d9_enter_76 : decode b9_enter 76 = .ok (.aload_n 0, 1) := by decide +kernel
theorem d9_enter_77 : decode b9_enter 77 = .ok (.getfield 122, 3) := by decide +kernel
theorem d9_enter_80 : decode b9_enter 80 = .ok (.iastore, 1) := by decide +kernel
theorem d9_enter_81 : decode b9_enter 81 = .ok (.aload_n 0, 1) := by decide +kernel
theorem d9_enter_82 : decode b9_enter 82 = .ok (.dup, 1) := by decide +kernel
theorem d9_enter_83 : decode b9_enter 83 = .ok (.getfield 128, 3) := by decide +kernel
theorem d9_enter_86 : decode b9_enter 86 = .ok (.iconst 1, 1) := by decide +kernel
theorem d9_enter_87 : decode b9_enter 87 = .ok (.iadd, 1) := by decide +kernel
theorem d9_enter_88 : decode b9_enter 88 = .ok (.putfield 128, 3) := by decide +kernel
theorem d9_enter_91 : decode b9_enter 91 = .ok (.aload_n 0, 1) := by decide +kernel
theorem d9_enter_92 : decode b9_enter 92 = .ok (.iconst 0, 1) := by decide +kernel
theorem d9_enter_93 : decode b9_enter 93 = .ok (.putfield 193, 3) := by decide +kernel
theorem d9_enter_96 : decode b9_enter 96 = .ok (.return_, 1) := by decide +kernel
theorem d9_start_0 : decode b9_start 0 = .ok (.aload_n 0, 1) := by decide +kernel
theorem d9_start_1 : decode b9_start 1 = .ok (.iload_n 1, 1) := by decide +kernel
theorem d9_start_2 : decode b9_start 2 = .ok (.iconst 0, 1) := by decide +kernel
theorem d9_start_3 : decode b9_start 3 = .ok (.iconst 5, 1) := by decide +kernel
theorem d9_start_4 : decode b9_start 4 = .ok (.invokestatic 92, 3) := by decide +kernel
theorem d9_start_7 : decode b9_start 7 = .ok (.iconst 1, 1) := by decide +kernel
theorem d9_start_8 : decode b9_start 8 = .ok (.invokevirtual 100, 3) := by decide +kernel
theorem d9_start_11 : decode b9_start 11 = .ok (.ifCond .ne 5, 3) := by decide +kernel
theorem d9_start_14 : decode b9_start 14 = .ok (.iconst 0, 1) := by decide +kernel
theorem d9_start_15 : decode b9_start 15 = .ok (.ireturn, 1) := by decide +kernel
theorem d9_start_16 : decode b9_start 16 = .ok (.aload_n 0, 1) := by decide +kernel
theorem d9_start_17 : decode b9_start 17 = .ok (.aload_n 0, 1) := by decide +kernel
theorem d9_start_18 : decode b9_start 18 = .ok (.getfield 104, 3) := by decide +kernel
theorem d9_start_21 : decode b9_start 21 = .ok (.iconst 1, 1) := by decide +kernel
theorem d9_start_22 : decode b9_start 22 = .ok (.if_icmp .eq 23, 3) := by decide +kernel
theorem d9_start_25 : decode b9_start 25 = .ok (.aload_n 0, 1) := by decide +kernel
theorem d9_start_26 : decode b9_start 26 = .ok (.getfield 111, 3) := by decide +kernel
theorem d9_start_29 : decode b9_start 29 = .ok (.ifCond .eq 16, 3) := by decide +kernel
theorem d9_start_32 : decode b9_start 32 = .ok (.aload_n 0, 1) := by decide +kernel
theorem d9_start_33 : decode b9_start 33 = .ok (.getfield 25, 3) := by decide +kernel
theorem d9_start_36 : decode b9_start 36 = .ok (.iload_n 1, 1) := by decide +kernel
theorem d9_start_37 : decode b9_start 37 = .ok (.iaload, 1) := by decide +kernel
theorem d9_start_38 : decode b9_start 38 = .ok (.ifCond .le 7, 3) := by decide +kernel
theorem d9_start_41 : decode b9_start 41 = .ok (.iconst 1, 1) := by decide +kernel
theorem d9_start_42 : decode b9_start 42 = .ok (.goto 4, 3) := by decide +kernel
theorem d9_start_45 : decode b9_start 45 = .ok (.iconst 0, 1) := by decide +kernel
theorem d9_start_46 : decode b9_start 46 = .ok (.iconst 2, 1) := by decide +kernel
theorem d9_start_47 : decode b9_start 47 = .ok (.invokevirtual 100, 3) := by decide +kernel
theorem d9_start_50 : decode b9_start 50 = .ok (.ifCond .ne 5, 3) := by decide +kernel
theorem d9_start_53 : decode b9_start 53 = .ok (.iconst 0, 1) := by decide +kernel
theorem d9_start_54 : decode b9_start 54 = .ok (.ireturn, 1) := by decide +kernel
theorem d9_start_55 : decode b9_start 55 = .ok (.aload_n 0, 1) := by decide +kernel
theorem d9_start_56 : decode b9_start 56 = .ok (.aload_n 0, 1) := by decide +kernel
theorem d9_start_57 : decode b9_start 57 = .ok (.getfield 187, 3) := by decide +kernel
theorem d9_start_60 : decode b9_start 60 = .ok (.aload_n 0, 1) := by decide +kernel
theorem d9_start_61 : decode b9_start 61 = .ok (.getfield 13, 3) := by decide +kernel
theorem d9_start_64 : decode b9_start 64 = .ok (.iload_n 1, 1) := by decide +kernel
theorem d9_start_65 : decode b9_start 65 = .ok (.iaload, 1) := by decide +kernel
theorem d9_start_66 : decode b9_start 66 = .ok (.if_icmp .ne 7, 3) := by decide +kernel
theorem d9_start_69 : decode b9_start 69 = .ok (.iconst 1, 1) := by decide +kernel
theorem d9_start_70 : decode b9_start 70 = .ok (.goto 4, 3) := by decide +kernel
theorem d9_start_73 : decode b9_start 73 = .ok (.iconst 0, 1) := by decide +kernel
theorem d9_start_74 : decode b9_start 74 = .ok (.iconst 3, 1) := by decide +kernel
theorem d9_start_75 : decode b9_start 75 = .ok (.invokevirtual 100, 3) := by decide +kernel
theorem d9_start_78 : decode b9_start 78 = .ok (.ifCond .ne 5, 3) := by decide +kernel
theorem d9_start_81 : decode b9_start 81 = .ok (.iconst 0, 1) := by decide +kernel
theorem d9_start_82 : decode b9_start 82 = .ok (.ireturn, 1) := by decide +kernel
theorem d9_start_83 : decode b9_start 83 = .ok (.aload_n 0, 1) := by decide +kernel
theorem d9_start_84 : decode b9_start 84 = .ok (.iconst 1, 1) := by decide +kernel
theorem d9_start_85 : decode b9_start 85 = .ok (.putfield 104, 3) := by decide +kernel
theorem d9_start_88 : decode b9_start 88 = .ok (.aload_n 0, 1) := by decide +kernel
theorem d9_start_89 : decode b9_start 89 = .ok (.iconst 0, 1) := by decide +kernel
theorem d9_start_90 : decode b9_start 90 = .ok (.putfield 196, 3) := by decide +kernel
theorem d9_start_93 : decode b9_start 93 = .ok (.aload_n 0, 1) := by decide +kernel
theorem d9_start_94 : decode b9_start 94 = .ok (.iconst 0, 1) := by decide +kernel
theorem d9_start_95 : decode b9_start 95 = .ok (.putfield 190, 3) := by decide +kernel
theorem d9_start_98 : decode b9_start 98 = .ok (.aload_n 0, 1) := by decide +kernel
theorem d9_start_99 : decode b9_start 99 = .ok (.iconst 0, 1) := by decide +kernel
theorem d9_start_100 : decode b9_start 100 = .ok (.putfield 128, 3) := by decide +kernel
theorem d9_start_103 : decode b9_start 103 = .ok (.aload_n 0, 1) := by decide +kernel
theorem d9_start_104 : decode b9_start 104 = .ok (.iconst 0, 1) := by decide +kernel
theorem d9_start_105 : decode b9_start 105 = .ok (.putfield 122, 3) := by decide +kernel
theorem d9_start_108 : decode b9_start 108 = .ok (.iconst 0, 1) := by decide +kernel
theorem d9_start_109 : decode b9_start 109 = .ok (.istore_n 2, 1) := by decide +kernel
theorem d9_start_110 : decode b9_start 110 = .ok (.iload_n 2, 1) := by decide +kernel
theorem d9_start_111 : decode b9_start 111 = .ok (.bipush 6, 2) := by decide +kernel
theorem d9_start_113 : decode b9_start 113 = .ok (.if_icmp .ge 63, 3) := by decide +kernel
theorem d9_start_116 : decode b9_start 116 = .ok (.aload_n 0, 1) := by decide +kernel
theorem d9_start_117 : decode b9_start 117 = .ok (.getfield 70, 3) := by decide +kernel
theorem d9_start_120 : decode b9_start 120 = .ok (.iload_n 2, 1) := by decide +kernel
theorem d9_start_121 : decode b9_start 121 = .ok (.iload_n 2, 1) := by decide +kernel
theorem d9_start_122 : decode b9_start 122 = .ok (.aload_n 0, 1) := by decide +kernel
theorem d9_start_123 : decode b9_start 123 = .ok (.getfield 187, 3) := by decide +kernel
theorem d9_start_126 : decode b9_start 126 = .ok (.if_icmp .ge 13, 3) := by decide +kernel
theorem d9_start_129 : decode b9_start 129 = .ok (.aload_n 0, 1) := by decide +kernel
theorem d9_start_130 : decode b9_start 130 = .ok (.getfield 38, 3) := by decide +kernel
theorem d9_start_133 : decode b9_start 133 = .ok (.iload_n 2, 1) := by decide +kernel
theorem d9_start_134 : decode b9_start 134 = .ok (.iaload, 1) := by decide +kernel
theorem d9_start_135 : decode b9_start 135 = .ok (.i2l, 1) := by decide +kernel
theorem d9_start_136 : decode b9_start 136 = .ok (.goto 4, 3) := by decide +kernel
theorem d9_start_139 : decode b9_start 139 = .ok (.lconst 0, 1) := by decide +kernel
theorem d9_start_140 : decode b9_start 140 = .ok (.lastore, 1) := by decide +kernel
theorem d9_start_141 : decode b9_start 141 = .ok (.aload_n 0, 1) := by decide +kernel
theorem d9_start_142 : decode b9_start 142 = .ok (.getfield 73, 3) := by decide +kernel
theorem d9_start_145 : decode b9_start 145 = .ok (.iload_n 2, 1) := by decide +kernel
theorem d9_start_146 : decode b9_start 146 = .ok (.iload_n 2, 1) := by decide +kernel
theorem d9_start_147 : decode b9_start 147 = .ok (.aload_n 0, 1) := by decide +kernel
theorem d9_start_148 : decode b9_start 148 = .ok (.getfield 187, 3) := by decide +kernel
theorem d9_start_151 : decode b9_start 151 = .ok (.if_icmp .ge 17, 3) := by decide +kernel
theorem d9_start_154 : decode b9_start 154 = .ok (.aload_n 0, 1) := by decide +kernel
theorem d9_start_155 : decode b9_start 155 = .ok (.getfield 38, 3) := by decide +kernel
theorem d9_start_158 : decode b9_start 158 = .ok (.iload_n 2, 1) := by decide +kernel
theorem d9_start_159 : decode b9_start 159 = .ok (.iaload, 1) := by decide +kernel
theorem d9_start_160 : decode b9_start 160 = .ok (.i2d, 1) := by decide +kernel
theorem d9_start_161 : decode b9_start 161 = .ok (.ldc2_w 199, 3) := by decide +kernel
theorem d9_start_164 : decode b9_start 164 = .ok (.dmul, 1) := by decide +kernel
theorem d9_start_165 : decode b9_start 165 = .ok (.goto 4, 3) := by decide +kernel
theorem d9_start_168 : decode b9_start 168 = .ok (.dconst 0, 1) := by decide +kernel
theorem d9_start_169 : decode b9_start 169 = .ok (.dastore, 1) := by decide +kernel
theorem d9_start_170 : decode b9_start 170 = .ok (.iinc 2 1, 3) := by decide +kernel
theorem d9_start_173 : decode b9_start 173 = .ok (.goto (-63), 3) := by decide +kernel
theorem d9_start_176 : decode b9_start 176 = .ok (.aload_n 0, 1) := by decide +kernel
theorem d9_start_177 : decode b9_start 177 = .ok (.iload_n 1, 1) := by decide +kernel
theorem d9_start_178 : decode b9_start 178 = .ok (.iconst 0, 1) := by decide +kernel
theorem d9_start_179 : decode b9_start 179 = .ok (.invokevirtual 201, 3) := by decide +kernel
theorem d9_start_182 : decode b9_start 182 = .ok (.aload_n 0, 1) := by decide +kernel
theorem d9_start_183 : decode b9_start 183 = .ok (.getfield 187, 3) := by decide +kernel
theorem d9_start_186 : decode b9_start 186 = .ok (.istore_n 2, 1) := by decide +kernel
theorem d9_start_187 : decode b9_start 187 = .ok (.aload_n 0, 1) := by decide +kernel
theorem d9_start_188 : decode b9_start 188 = .ok (.iconst 0, 1) := by decide +kernel
theorem d9_start_189 : decode b9_start 189 = .ok (.putfield 187, 3) := by decide +kernel
theorem d9_start_192 : decode b9_start 192 = .ok (.iload_n 2, 1) := by decide +kernel
theorem d9_start_193 : decode b9_start 193 = .ok (.ireturn, 1) := by decide +kernel
theorem d9_push_0 : decode b9_push 0 = .ok (.aload_n 0, 1) := by decide +kernel
theorem d9_push_1 : decode b9_push 1 = .ok (.getfield 60, 3) := by decide +kernel
theorem d9_push_4 : decode b9_push 4 = .ok (.aload_n 0, 1) := by decide +kernel
theorem d9_push_5 : decode b9_push 5 = .ok (.getfield 122, 3) := by decide +kernel
theorem d9_push_8 : decode b9_push 8 = .ok (.lload_n 1, 1) := by decide +kernel
theorem d9_push_9 : decode b9_push 9 = .ok (.lastore, 1) := by decide +kernel
theorem d9_push_10 : decode b9_push 10 = .ok (.aload_n 0, 1) := by decide +kernel
theorem d9_push_11 : decode b9_push 11 = .ok (.getfield 63, 3) := by decide +kernel
theorem d9_push_14 : decode b9_push 14 = .ok (.aload_n 0, 1) := by decide +kernel
theorem d9_push_15 : decode b9_push 15 = .ok (.getfield 122, 3) := by decide +kernel
theorem d9_push_18 : decode b9_push 18 = .ok (.dload_n 3, 1) := by decide +kernel
theorem d9_push_19 : decode b9_push 19 = .ok (.dastore, 1) := by decide +kernel
theorem d9_push_20 : decode b9_push 20 = .ok (.aload_n 0, 1) := by decide +kernel
theorem d9_push_21 : decode b9_push 21 = .ok (.dup, 1) := by decide +kernel
theorem d9_push_22 : decode b9_push 22 = .ok (.getfield 122, 3) := by decide +kernel
theorem d9_push_25 : decode b9_push 25 = .ok (.iconst 1, 1) := by decide +kernel
theorem d9_push_26 : decode b9_push 26 = .ok (.iadd, 1) := by decide +kernel
theorem d9_push_27 : decode b9_push 27 = .ok (.putfield 122, 3) := by decide +kernel
theorem d9_push_30 : decode b9_push 30 = .ok (.return_, 1) := by decide +kernel
theorem d9_popInt_0 : decode b9_popInt 0 = .ok (.aload_n 0, 1) := by decide +kernel
theorem d9_popInt_1 : decode b9_popInt 1 = .ok (.dup, 1) := by decide +kernel
theorem d9_popInt_2 : decode b9_popInt 2 = .ok (.getfield 122, 3) := by decide +kernel
theorem d9_popInt_5 : decode b9_popInt 5 = .ok (.iconst 1, 1) := by decide +kernel
theorem d9_popInt_6 : decode b9_popInt 6 = .ok (.isub, 1) := by decide +kernel
theorem d9_popInt_7 : decode b9_popInt 7 = .ok (.putfield 122, 3) := by decide +kernel
theorem d9_popInt_10 : decode b9_popInt 10 = .ok (.aload_n 0, 1) := by decide +kernel
theorem d9_popInt_11 : decode b9_popInt 11 = .ok (.getfield 60, 3) := by decide +kernel
theorem d9_popInt_14 : decode b9_popInt 14 = .ok (.aload_n 0, 1) := by decide +kernel
theorem d9_popInt_15 : decode b9_popInt 15 = .ok (.getfield 122, 3) := by decide +kernel
theorem d9_popInt_18 : decode b9_popInt 18 = .ok (.laload, 1) := by decide +kernel
theorem d9_popInt_19 : decode b9_popInt 19 = .ok (.l2i, 1) := by decide +kernel
theorem d9_popInt_20 : decode b9_popInt 20 = .ok (.ireturn, 1) := by decide +kernel
theorem d9_leave_0 : decode b9_leave 0 = .ok (.aload_n 0, 1) := by decide +kernel
theorem d9_leave_1 : decode b9_leave 1 = .ok (.getfield 76, 3) := by decide +kernel
theorem d9_leave_4 : decode b9_leave 4 = .ok (.aload_n 0, 1) := by decide +kernel
theorem d9_leave_5 : decode b9_leave 5 = .ok (.getfield 190, 3) := by decide +kernel
theorem d9_leave_8 : decode b9_leave 8 = .ok (.iconst 1, 1) := by decide +kernel
theorem d9_leave_9 : decode b9_leave 9 = .ok (.isub, 1) := by decide +kernel
theorem d9_leave_10 : decode b9_leave 10 = .ok (.iaload, 1) := by decide +kernel
theorem d9_leave_11 : decode b9_leave 11 = .ok (.istore_n 1, 1) := by decide +kernel
theorem d9_leave_12 : decode b9_leave 12 = .ok (.aload_n 0, 1) := by decide +kernel
theorem d9_leave_13 : decode b9_leave 13 = .ok (.getfield 19, 3) := by decide +kernel
theorem d9_leave_16 : decode b9_leave 16 = .ok (.iload_n 1, 1) := by decide +kernel
theorem d9_leave_17 : decode b9_leave 17 = .ok (.iaload, 1) := by decide +kernel
theorem d9_leave_18 : decode b9_leave 18 = .ok (.ifCond .eq 7, 3) := by decide +kernel
theorem d9_leave_21 : decode b9_leave 21 = .ok (.iconst 1, 1) := by decide +kernel
theorem d9_leave_22 : decode b9_leave 22 = .ok (.goto 4, 3) := by decide +kernel
theorem d9_leave_25 : decode b9_leave 25 = .ok (.iconst 0, 1) := by decide +kernel
theorem d9_leave_26 : decode b9_leave 26 = .ok (.istore_n 2, 1) := by decide +kernel
theorem d9_leave_27 : decode b9_leave 27 = .ok (.iload_n 2, 1) := by decide +kernel
theorem d9_leave_28 : decode b9_leave 28 = .ok (.ifCond .eq 17, 3) := by decide +kernel
theorem d9_leave_31 : decode b9_leave 31 = .ok (.aload_n 0, 1) := by decide +kernel
theorem d9_leave_32 : decode b9_leave 32 = .ok (.getfield 60, 3) := by decide +kernel
theorem d9_leave_35 : decode b9_leave 35 = .ok (.aload_n 0, 1) := by decide +kernel
theorem d9_leave_36 : decode b9_leave 36 = .ok (.getfield 122, 3) := by decide +kernel
theorem d9_leave_39 : decode b9_leave 39 = .ok (.iconst 1, 1) := by decide +kernel
theorem d9_leave_40 : decode b9_leave 40 = .ok (.isub, 1) := by decide +kernel
theorem d9_leave_41 : decode b9_leave 41 = .ok (.laload, 1) := by decide +kernel
theorem d9_leave_42 : decode b9_leave 42 = .ok (.goto 4, 3) := by decide +kernel
theorem d9_leave_45 : decode b9_leave 45 = .ok (.lconst 0, 1) := by decide +kernel
theorem d9_leave_46 : decode b9_leave 46 = .ok (.lstore_n 3, 1) := by decide +kernel
theorem d9_leave_47 : decode b9_leave 47 = .ok (.iload_n 2, 1) := by decide +kernel
theorem d9_leave_48 : decode b9_leave 48 = .ok (.ifCond .eq 17, 3) := by decide +kernel
theorem d9_leave_51 : decode b9_leave 51 = .ok (.aload_n 0, 1) := by decide +kernel
theorem d9_leave_52 : decode b9_leave 52 = .ok (.getfield 63, 3) := by decide +kernel
theorem d9_leave_55 : decode b9_leave 55 = .ok (.aload_n 0, 1) := by decide +kernel
theorem d9_leave_56 : decode b9_leave 56 = .ok (.getfield 122, 3) := by decide +kernel
theorem d9_leave_59 : decode b9_leave 59 = .ok (.iconst 1, 1) := by decide +kernel
theorem d9_leave_60 : decode b9_leave 60 = .ok (.isub, 1) := by decide +kernel
theorem d9_leave_61 : decode b9_leave 61 = .ok (.daload, 1) := by decide +kernel
theorem d9_leave_62 : decode b9_leave 62 = .ok (.goto 4, 3) := by decide +kernel
theorem d9_leave_65 : decode b9_leave 65 = .ok (.dconst 0, 1) := by decide +kernel
theorem d9_leave_66 : decode b9_leave 66 = .ok (.dstore 5, 2) := by decide +kernel
theorem d9_leave_68 : decode b9_leave 68 = .ok (.aload_n 0, 1) := by decide +kernel
theorem d9_leave_69 : decode b9_leave 69 = .ok (.aload_n 0, 1) := by decide +kernel
theorem d9_leave_70 : decode b9_leave 70 = .ok (.getfield 50, 3) := by decide +kernel
theorem d9_leave_73 : decode b9_leave 73 = .ok (.aload_n 0, 1) := by decide +kernel
theorem d9_leave_74 : decode b9_leave 74 = .ok (.getfield 82, 3) := by decide +kernel
theorem d9_leave_77 : decode b9_leave 77 = .ok (.aload_n 0, 1) := by decide +kernel
theorem d9_leave_78 : decode b9_leave 78 = .ok (.getfield 190, 3) := by decide +kernel
theorem d9_leave_81 : decode b9_leave 81 = .ok (.iconst 1, 1) := by decide +kernel
theorem d9_leave_82 : decode b9_leave 82 = .ok (.isub, 1) := by decide +kernel
theorem d9_leave_83 : decode b9_leave 83 = .ok (.iaload, 1) := by decide +kernel
theorem d9_leave_84 : decode b9_leave 84 = .ok (.iaload, 1) := by decide +kernel
theorem d9_leave_85 : decode b9_leave 85 = .ok (.putfield 122, 3) := by decide +kernel
theorem d9_leave_88 : decode b9_leave 88 = .ok (.aload_n 0, 1) := by decide +kernel
theorem d9_leave_89 : decode b9_leave 89 = .ok (.aload_n 0, 1) := by decide +kernel
theorem d9_leave_90 : decode b9_leave 90 = .ok (.getfield 82, 3) := by decide +kernel
theorem d9_leave_93 : decode b9_leave 93 = .ok (.aload_n 0, 1) := by decide +kernel
theorem d9_leave_94 : decode b9_leave 94 = .ok (.getfield 190, 3) := by decide +kernel
theorem d9_leave_97 : decode b9_leave 97 = .ok (.iconst 1, 1) := by decide +kernel
theorem d9_leave_98 : decode b9_leave 98 = .ok (.isub, 1) := by decide +kernel
theorem d9_leave_99 : decode b9_leave 99 = .ok (.iaload, 1) := by decide +kernel
theorem d9_leave_100 : decode b9_leave 100 = .ok (.putfield 128, 3) := by decide +kernel
theorem d9_leave_103 : decode b9_leave 103 = .ok (.aload_n 0, 1) := by decide +kernel
theorem d9_leave_104 : decode b9_leave 104 = .ok (.aload_n 0, 1) := by decide +kernel
theorem d9_leave_105 : decode b9_leave 105 = .ok (.getfield 79, 3) := by decide +kernel
theorem d9_leave_108 : decode b9_leave 108 = .ok (.aload_n 0, 1) := by decide +kernel
theorem d9_leave_109 : decode b9_leave 109 = .ok (.getfield 190, 3) := by decide +kernel
theorem d9_leave_112 : decode b9_leave 112 = .ok (.iconst 1, 1) := by decide +kernel
theorem d9_leave_113 : decode b9_leave 113 = .ok (.isub, 1) := by decide +kernel
theorem d9_leave_114 : decode b9_leave 114 = .ok (.iaload, 1) := by decide +kernel
theorem d9_leave_115 : decode b9_leave 115 = .ok (.putfield 193, 3) := by decide +kernel
theorem d9_leave_118 : decode b9_leave 118 = .ok (.aload_n 0, 1) := by decide +kernel
theorem d9_leave_119 : decode b9_leave 119 = .ok (.dup, 1) := by decide +kernel
theorem d9_leave_120 : decode b9_leave 120 = .ok (.getfield 190, 3) := by decide +kernel
theorem d9_leave_123 : decode b9_leave 123 = .ok (.iconst 1, 1) := by decide +kernel
theorem d9_leave_124 : decode b9_leave 124 = .ok (.isub, 1) := by decide +kernel
theorem d9_leave_125 : decode b9_leave 125 = .ok (.putfield 190, 3) := by decide +kernel
theorem d9_leave_128 : decode b9_leave 128 = .ok (.aload_n 0, 1) := by decide +kernel
theorem d9_leave_129 : decode b9_leave 129 = .ok (.getfield 190, 3) := by decide +kernel
theorem d9_leave_132 : decode b9_leave 132 = .ok (.ifCond .ne 32, 3) := by decide +kernel
theorem d9_leave_135 : decode b9_leave 135 = .ok (.aload_n 0, 1) := by decide +kernel
theorem d9_leave_136 : decode b9_leave 136 = .ok (.iconst 2, 1) := by decide +kernel
theorem d9_leave_137 : decode b9_leave 137 = .ok (.putfield 104, 3) := by decide +kernel
theorem d9_leave_140 : decode b9_leave 140 = .ok (.aload_n 0, 1) := by decide +kernel
theorem d9_leave_141 : decode b9_leave 141 = .ok (.aload_n 0, 1) := by decide +kernel
theorem d9_leave_142 : decode b9_leave 142 = .ok (.getfield 19, 3) := by decide +kernel
theorem d9_leave_145 : decode b9_leave 145 = .ok (.iload_n 1, 1) := by decide +kernel
theorem d9_leave_146 : decode b9_leave 146 = .ok (.iaload, 1) := by decide +kernel
theorem d9_leave_147 : decode b9_leave 147 = .ok (.putfield 204, 3) := by decide +kernel
theorem d9_leave_150 : decode b9_leave 150 = .ok (.aload_n 0, 1) := by decide +kernel
theorem d9_leave_151 : decode b9_leave 151 = .ok (.lload_n 3, 1) := by decide +kernel
theorem d9_leave_152 : decode b9_leave 152 = .ok (.putfield 207, 3) := by decide +kernel
theorem d9_leave_155 : decode b9_leave 155 = .ok (.aload_n 0, 1) := by decide +kernel
theorem d9_leave_156 : decode b9_leave 156 = .ok (.dload 5, 2) := by decide +kernel
theorem d9_leave_158 : decode b9_leave 158 = .ok (.putfield 211, 3) := by decide +kernel
theorem d9_leave_161 : decode b9_leave 161 = .ok (.goto 14, 3) := by decide +kernel
theorem d9_leave_164 : decode b9_leave 164 = .ok (.iload_n 2, 1) := by decide +kernel
theorem d9_leave_165 : decode b9_leave 165 = .ok (.ifCond .eq 10, 3) := by decide +kernel
theorem d9_leave_168 : decode b9_leave 168 = .ok (.aload_n 0, 1) := by decide +kernel
theorem d9_leave_169 : decode b9_leave 169 = .ok (.lload_n 3, 1) := by decide +kernel
theorem d9_leave_170 : decode b9_leave 170 = .ok (.dload 5, 2) := by decide +kernel
theorem d9_leave_172 : decode b9_leave 172 = .ok (.invokevirtual 215, 3) := by decide +kernel
theorem d9_leave_175 : decode b9_leave 175 = .ok (.return_, 1) := by decide +kernel
