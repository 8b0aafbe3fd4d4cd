theorem d2_goOverCall_0 : decode b2_goOverCall 0 = .ok (.iload_n 1, 1) := by decide +kernel
theorem d2_goOverCall_1 : decode b2_goOverCall 1 = .ok (.invokestatic 158, 3) := by decide +kernel
theorem d2_goOverCall_4 : decode b2_goOverCall 4 = .ok (.ifCond .eq 19, 3) := by decide +kernel
theorem d2_goOverCall_7 : decode b2_goOverCall 7 = .ok (.iload_n 2, 1) := by decide +kernel
theorem d2_goOverCall_8 : decode b2_goOverCall 8 = .ok (.ifCond .eq 21, 3) := by decide +kernel
theorem d2_goOverCall_11 : decode b2_goOverCall 11 = .ok (.aload_n 0, 1) := by decide +kernel
theorem d2_goOverCall_12 : decode b2_goOverCall 12 = .ok (.getfield 21, 3) := by decide +kernel
theorem d2_goOverCall_15 : decode b2_goOverCall 15 = .ok (.iload_n 1, 1) := by decide +kernel
theorem d2_goOverCall_16 : decode b2_goOverCall 16 = .ok (.aaload, 1) := by decide +kernel
theorem d2_goOverCall_17 : decode b2_goOverCall 17 = .ok (.invokevirtual 57, 3) := by decide +kernel
theorem d2_goOverCall_20 : decode b2_goOverCall 20 = .ok (.ifCond .ne 9, 3) := by decide +kernel
theorem d2_goOverCall_23 : decode b2_goOverCall 23 = .ok (.aload_n 0, 1) := by decide +kernel
theorem d2_goOverCall_24 : decode b2_goOverCall 24 = .ok (.iconst 1, 1) := by decide +kernel
theorem d2_goOverCall_25 : decode b2_goOverCall 25 = .ok (.putfield 41, 3) := by decide +kernel
theorem d2_goOverCall_28 : decode b2_goOverCall 28 = .ok (.return_, 1) := by decide +kernel
theorem d2_goOverCall_29 : decode b2_goOverCall 29 = .ok (.aload_n 0, 1) := by decide +kernel
theorem d2_goOverCall_30 : decode b2_goOverCall 30 = .ok (.getfield 21, 3) := by decide +kernel
theorem d2_goOverCall_33 : decode b2_goOverCall 33 = .ok (.iload_n 1, 1) := by decide +kernel
theorem d2_goOverCall_34 : decode b2_goOverCall 34 = .ok (.aaload, 1) := by decide +kernel
theorem d2_goOverCall_35 : decode b2_goOverCall 35 = .ok (.invokevirtual 162, 3) := by decide +kernel
theorem d2_goOverCall_38 : decode b2_goOverCall 38 = .ok (.iconst 1, 1) := by decide +kernel
theorem d2_goOverCall_39 : decode b2_goOverCall 39 = .ok (.isub, 1) := by decide +kernel
theorem d2_goOverCall_40 : decode b2_goOverCall 40 = .ok (.istore_n 3, 1) := by decide +kernel
theorem d2_goOverCall_41 : decode b2_goOverCall 41 = .ok (.iload_n 3, 1) := by decide +kernel
theorem d2_goOverCall_42 : decode b2_goOverCall 42 = .ok (.ifCond .lt 24, 3) := by decide +kernel
theorem d2_goOverCall_45 : decode b2_goOverCall 45 = .ok (.aload_n 0, 1) := by decide +kernel
theorem d2_goOverCall_46 : decode b2_goOverCall 46 = .ok (.aload_n 0, 1) := by decide +kernel
theorem d2_goOverCall_47 : decode b2_goOverCall 47 = .ok (.getfield 21, 3) := by decide +kernel
theorem d2_goOverCall_50 : decode b2_goOverCall 50 = .ok (.iload_n 1, 1) := by decide +kernel
theorem d2_goOverCall_51 : decode b2_goOverCall 51 = .ok (.aaload, 1) := by decide +kernel
theorem d2_goOverCall_52 : decode b2_goOverCall 52 = .ok (.iload_n 3, 1) := by decide +kernel
theorem d2_goOverCall_53 : decode b2_goOverCall 53 = .ok (.invokevirtual 152, 3) := by decide +kernel
theorem d2_goOverCall_56 : decode b2_goOverCall 56 = .ok (.invokevirtual 90, 3) := by decide +kernel
theorem d2_goOverCall_59 : decode b2_goOverCall 59 = .ok (.pop, 1) := by decide +kernel
theorem d2_goOverCall_60 : decode b2_goOverCall 60 = .ok (.iinc 3 (-1), 3) := by decide +kernel
theorem d2_goOverCall_63 : decode b2_goOverCall 63 = .ok (.goto (-22), 3) := by decide +kernel
theorem d2_goOverCall_66 : decode b2_goOverCall 66 = .ok (.aload_n 0, 1) := by decide +kernel
theorem d2_goOverCall_67 : decode b2_goOverCall 67 = .ok (.aload_n 0, 1) := by decide +kernel
theorem d2_goOverCall_68 : decode b2_goOverCall 68 = .ok (.getfield 21, 3) := by decide +kernel
theorem d2_goOverCall_71 : decode b2_goOverCall 71 = .ok (.iload_n 1, 1) := by decide +kernel
theorem d2_goOverCall_72 : decode b2_goOverCall 72 = .ok (.aaload, 1) := by decide +kernel
theorem d2_goOverCall_73 : decode b2_goOverCall 73 = .ok (.invokevirtual 47, 3) := by decide +kernel
theorem d2_goOverCall_76 : decode b2_goOverCall 76 = .ok (.invokevirtual 124, 3) := by decide +kernel
theorem d2_goOverCall_79 : decode b2_goOverCall 79 = .ok (.return_, 1) := by decide +kernel
theorem d2_goOverSelect_0 : decode b2_goOverSelect 0 = .ok (.aload_n 0, 1) := by decide +kernel
theorem d2_goOverSelect_1 : decode b2_goOverSelect 1 = .ok (.iconst 1, 1) := by decide +kernel
theorem d2_goOverSelect_2 : decode b2_goOverSelect 2 = .ok (.invokevirtual 90, 3) := by decide +kernel
theorem d2_goOverSelect_5 : decode b2_goOverSelect 5 = .ok (.pop, 1) := by decide +kernel
theorem d2_goOverSelect_6 : decode b2_goOverSelect 6 = .ok (.aload_n 0, 1) := by decide +kernel
theorem d2_goOverSelect_7 : decode b2_goOverSelect 7 = .ok (.iconst 4, 1) := by decide +kernel
theorem d2_goOverSelect_8 : decode b2_goOverSelect 8 = .ok (.invokevirtual 90, 3) := by decide +kernel
theorem d2_goOverSelect_11 : decode b2_goOverSelect 11 = .ok (.istore_n 1, 1) := by decide +kernel
theorem d2_goOverSelect_12 : decode b2_goOverSelect 12 = .ok (.aload_n 0, 1) := by decide +kernel
theorem d2_goOverSelect_13 : decode b2_goOverSelect 13 = .ok (.iload_n 1, 1) := by decide +kernel
theorem d2_goOverSelect_14 : decode b2_goOverSelect 14 = .ok (.invokevirtual 90, 3) := by decide +kernel
theorem d2_goOverSelect_17 : decode b2_goOverSelect 17 = .ok (.istore_n 2, 1) := by decide +kernel
theorem d2_goOverSelect_18 : decode b2_goOverSelect 18 = .ok (.aload_n 0, 1) := by decide +kernel
theorem d2_goOverSelect_19 : decode b2_goOverSelect 19 = .ok (.iload_n 1, 1) := by decide +kernel
theorem d2_goOverSelect_20 : decode b2_goOverSelect 20 = .ok (.iconst 4, 1) := by decide +kernel
theorem d2_goOverSelect_21 : decode b2_goOverSelect 21 = .ok (.if_icmp .ne 7, 3) := by decide +kernel
theorem d2_goOverSelect_24 : decode b2_goOverSelect 24 = .ok (.iload_n 2, 1) := by decide +kernel
theorem d2_goOverSelect_25 : decode b2_goOverSelect 25 = .ok (.goto 4, 3) := by decide +kernel
theorem d2_goOverSelect_28 : decode b2_goOverSelect 28 = .ok (.iload_n 1, 1) := by decide +kernel
theorem d2_goOverSelect_29 : decode b2_goOverSelect 29 = .ok (.invokevirtual 124, 3) := by decide +kernel
theorem d2_goOverSelect_32 : decode b2_goOverSelect 32 = .ok (.return_, 1) := by decide +kernel
theorem d2_goOverGlobal_0 : decode b2_goOverGlobal 0 = .ok (.iload_n 2, 1) := by decide +kernel
theorem d2_goOverGlobal_1 : decode b2_goOverGlobal 1 = .ok (.iconst 1, 1) := by decide +kernel
theorem d2_goOverGlobal_2 : decode b2_goOverGlobal 2 = .ok (.iadd, 1) := by decide +kernel
theorem d2_goOverGlobal_3 : decode b2_goOverGlobal 3 = .ok (.istore_n 3, 1) := by decide +kernel
theorem d2_goOverGlobal_4 : decode b2_goOverGlobal 4 = .ok (.iload_n 3, 1) := by decide +kernel
theorem d2_goOverGlobal_5 : decode b2_goOverGlobal 5 = .ok (.iconst 3, 1) := by decide +kernel
theorem d2_goOverGlobal_6 : decode b2_goOverGlobal 6 = .ok (.if_icmp .le 11, 3) := by decide +kernel
theorem d2_goOverGlobal_9 : decode b2_goOverGlobal 9 = .ok (.aload_n 0, 1) := by decide +kernel
theorem d2_goOverGlobal_10 : decode b2_goOverGlobal 10 = .ok (.iconst 1, 1) := by decide +kernel
theorem d2_goOverGlobal_11 : decode b2_goOverGlobal 11 = .ok (.putfield 41, 3) := by decide +kernel
theorem d2_goOverGlobal_14 : decode b2_goOverGlobal 14 = .ok (.goto 23, 3) := by decide +kernel
theorem d2_goOverGlobal_17 : decode b2_goOverGlobal 17 = .ok (.iload_n 1, 1) := by decide +kernel
theorem d2_goOverGlobal_18 : decode b2_goOverGlobal 18 = .ok (.bipush 18, 2) := by decide +kernel
theorem d2_goOverGlobal_20 : decode b2_goOverGlobal 20 = .ok (.if_icmp .ne 11, 3) := by decide +kernel
theorem d2_goOverGlobal_23 : decode b2_goOverGlobal 23 = .ok (.aload_n 0, 1) := by decide +kernel
theorem d2_goOverGlobal_24 : decode b2_goOverGlobal 24 = .ok (.iload_n 3, 1) := by decide +kernel
theorem d2_goOverGlobal_25 : decode b2_goOverGlobal 25 = .ok (.invokevirtual 124, 3) := by decide +kernel
theorem d2_goOverGlobal_28 : decode b2_goOverGlobal 28 = .ok (.goto 9, 3) := by decide +kernel
theorem d2_goOverGlobal_31 : decode b2_goOverGlobal 31 = .ok (.aload_n 0, 1) := by decide +kernel
theorem d2_goOverGlobal_32 : decode b2_goOverGlobal 32 = .ok (.iload_n 3, 1) := by decide +kernel
theorem d2_goOverGlobal_33 : decode b2_goOverGlobal 33 = .ok (.invokevirtual 90, 3) := by decide +kernel
theorem d2_goOverGlobal_36 : decode b2_goOverGlobal 36 = .ok (.pop, 1) := by decide +kernel
theorem d2_goOverGlobal_37 : decode b2_goOverGlobal 37 = .ok (.return_, 1) := by decide +kernel
theorem d2_goOverVariable_0 : decode b2_goOverVariable 0 = .ok (.iload_n 2, 1) := by decide +kernel
theorem d2_goOverVariable_1 : decode b2_goOverVariable 1 = .ok (.ifCond .ne 9, 3) := by decide +kernel
theorem d2_goOverVariable_4 : decode b2_goOverVariable 4 = .ok (.aload_n 0, 1) := by decide +kernel
theorem d2_goOverVariable_5 : decode b2_goOverVariable 5 = .ok (.iconst 1, 1) := by decide +kernel
theorem d2_goOverVariable_6 : decode b2_goOverVariable 6 = .ok (.putfield 41, 3) := by decide +kernel
theorem d2_goOverVariable_9 : decode b2_goOverVariable 9 = .ok (.return_, 1) := by decide +kernel
theorem d2_goOverVariable_10 : decode b2_goOverVariable 10 = .ok (.iload_n 1, 1) := by decide +kernel
theorem d2_goOverVariable_11 : decode b2_goOverVariable 11 = .ok (.bipush 15, 2) := by decide +kernel
theorem d2_goOverVariable_13 : decode b2_goOverVariable 13 = .ok (.if_icmp .eq 9, 3) := by decide +kernel
theorem d2_goOverVariable_16 : decode b2_goOverVariable 16 = .ok (.aload_n 0, 1) := by decide +kernel
theorem d2_goOverVariable_17 : decode b2_goOverVariable 17 = .ok (.iload_n 2, 1) := by decide +kernel
theorem d2_goOverVariable_18 : decode b2_goOverVariable 18 = .ok (.invokevirtual 90, 3) := by decide +kernel
theorem d2_goOverVariable_21 : decode b2_goOverVariable 21 = .ok (.pop, 1) := by decide +kernel
theorem d2_goOverVariable_22 : decode b2_goOverVariable 22 = .ok (.iload_n 1, 1) := by decide +kernel
theorem d2_goOverVariable_23 : decode b2_goOverVariable 23 = .ok (.bipush 16, 2) := by decide +kernel
theorem d2_goOverVariable_25 : decode b2_goOverVariable 25 = .ok (.if_icmp .eq 8, 3) := by decide +kernel
theorem d2_goOverVariable_28 : decode b2_goOverVariable 28 = .ok (.aload_n 0, 1) := by decide +kernel
theorem d2_goOverVariable_29 : decode b2_goOverVariable 29 = .ok (.iload_n 2, 1) := by decide +kernel
theorem d2_goOverVariable_30 : decode b2_goOverVariable 30 = .ok (.invokevirtual 124, 3) := by decide +kernel
theorem d2_goOverVariable_33 : decode b2_goOverVariable 33 = .ok (.return_, 1) := by decide +kernel
theorem d2_goOverSignature_0 : decode b2_goOverSignature 0 = .ok (.aload_n 0, 1) := by decide +kernel
theorem d2_goOverSignature_1 : decode b2_goOverSignature 1 = .ok (.iload_n 1, 1) := by decide +kernel
theorem d2_goOverSignature_2 : decode b2_goOverSignature 2 = .ok (.bipush 100, 2) := by decide +kernel
theorem d2_goOverSignature_4 : decode b2_goOverSignature 4 = .ok (.idiv, 1) := by decide +kernel
theorem d2_goOverSignature_5 : decode b2_goOverSignature 5 = .ok (.invokevirtual 90, 3) := by decide +kernel
theorem d2_goOverSignature_8 : decode b2_goOverSignature 8 = .ok (.pop, 1) := by decide +kernel
theorem d2_goOverSignature_9 : decode b2_goOverSignature 9 = .ok (.aload_n 0, 1) := by decide +kernel
theorem d2_goOverSignature_10 : decode b2_goOverSignature 10 = .ok (.iload_n 1, 1) := by decide +kernel
theorem d2_goOverSignature_11 : decode b2_goOverSignature 11 = .ok (.bipush 10, 2) := by decide +kernel
theorem d2_goOverSignature_13 : decode b2_goOverSignature 13 = .ok (.idiv, 1) := by decide +kernel
theorem d2_goOverSignature_14 : decode b2_goOverSignature 14 = .ok (.bipush 10, 2) := by decide +kernel
theorem d2_goOverSignature_16 : decode b2_goOverSignature 16 = .ok (.irem, 1) := by decide +kernel
theorem d2_goOverSignature_17 : decode b2_goOverSignature 17 = .ok (.invokevirtual 90, 3) := by decide +kernel
theorem d2_goOverSignature_20 : decode b2_goOverSignature 20 = .ok (.pop, 1) := by decide +kernel
theorem d2_goOverSignature_21 : decode b2_goOverSignature 21 = .ok (.aload_n 0, 1) := by decide +kernel
theorem d2_goOverSignature_22 : decode b2_goOverSignature 22 = .ok (.iload_n 1, 1) := by decide +kernel
theorem d2_goOverSignature_23 : decode b2_goOverSignature 23 = .ok (.bipush 10, 2) := by decide +kernel
theorem d2_goOverSignature_25 : decode b2_goOverSignature 25 = .ok (.irem, 1) := by decide +kernel
theorem d2_goOverSignature_26 : decode b2_goOverSignature 26 = .ok (.invokevirtual 124, 3) := by decide +kernel
theorem d2_goOverSignature_29 : decode b2_goOverSignature 29 = .ok (.return_, 1) := by decide +kernel
theorem d2_take_0 : decode b2_take 0 = .ok (.iload_n 1, 1) := by decide +kernel
theorem d2_take_1 : decode b2_take 1 = .ok (.ifCond .ne 5, 3) := by decide +kernel
theorem d2_take_4 : decode b2_take 4 = .ok (.iconst 0, 1) := by decide +kernel
theorem d2_take_5 : decode b2_take 5 = .ok (.ireturn, 1) := by decide +kernel
theorem d2_take_6 : decode b2_take 6 = .ok (.aload_n 0, 1) := by decide +kernel
theorem d2_take_7 : decode b2_take 7 = .ok (.getfield 34, 3) := by decide +kernel
theorem d2_take_10 : decode b2_take 10 = .ok (.aload_n 0, 1) := by decide +kernel
theorem d2_take_11 : decode b2_take 11 = .ok (.getfield 30, 3) := by decide +kernel
theorem d2_take_14 : decode b2_take 14 = .ok (.getfield 130, 3) := by decide +kernel
theorem d2_take_17 : decode b2_take 17 = .ok (.if_icmp .le 12, 3) := by decide +kernel
theorem d2_take_20 : decode b2_take 20 = .ok (.aload_n 0, 1) := by decide +kernel
theorem d2_take_21 : decode b2_take 21 = .ok (.getfield 34, 3) := by decide +kernel
theorem d2_take_24 : decode b2_take 24 = .ok (.bipush 16, 2) := by decide +kernel
theorem d2_take_26 : decode b2_take 26 = .ok (.if_icmp .le 31, 3) := by decide +kernel
theorem d2_take_29 : decode b2_take 29 = .ok (.aload_n 0, 1) := by decide +kernel
theorem d2_take_30 : decode b2_take 30 = .ok (.aload_n 0, 1) := by decide +kernel
theorem d2_take_31 : decode b2_take 31 = .ok (.getfield 41, 3) := by decide +kernel
theorem d2_take_34 : decode b2_take 34 = .ok (.ifCond .ne 13, 3) := by decide +kernel
theorem d2_take_37 : decode b2_take 37 = .ok (.aload_n 0, 1) := by decide +kernel
theorem d2_take_38 : decode b2_take 38 = .ok (.getfield 30, 3) := by decide +kernel
theorem d2_take_41 : decode b2_take 41 = .ok (.getfield 113, 3) := by decide +kernel
theorem d2_take_44 : decode b2_take 44 = .ok (.ifCond .ne 7, 3) := by decide +kernel
theorem d2_take_47 : decode b2_take 47 = .ok (.iconst 1, 1) := by decide +kernel
theorem d2_take_48 : decode b2_take 48 = .ok (.goto 4, 3) := by decide +kernel
theorem d2_take_51 : decode b2_take 51 = .ok (.iconst 0, 1) := by decide +kernel
theorem d2_take_52 : decode b2_take 52 = .ok (.putfield 41, 3) := by decide +kernel
theorem d2_take_55 : decode b2_take 55 = .ok (.iconst 4, 1) := by decide +kernel
theorem d2_take_56 : decode b2_take 56 = .ok (.ireturn, 1) := by decide +kernel
theorem d2_take_57 : decode b2_take 57 = .ok (.aload_n 0, 1) := by decide +kernel
theorem d2_take_58 : decode b2_take 58 = .ok (.dup, 1) := by decide +kernel
theorem d2_take_59 : decode b2_take 59 = .ok (.getfield 34, 3) := by decide +kernel
theorem d2_take_62 : decode b2_take 62 = .ok (.iconst 1, 1) := by decide +kernel
theorem d2_take_63 : decode b2_take 63 = .ok (.isub, 1) := by decide +kernel
theorem d2_take_64 : decode b2_take 64 = .ok (.putfield 34, 3) := by decide +kernel
theorem d2_take_67 : decode b2_take 67 = .ok (.aload_n 0, 1) := by decide +kernel
theorem d2_take_68 : decode b2_take 68 = .ok (.getfield 9, 3) := by decide +kernel
theorem d2_take_71 : decode b2_take 71 = .ok (.aload_n 0, 1) := by decide +kernel
theorem d2_take_72 : decode b2_take 72 = .ok (.getfield 34, 3) := by decide +kernel
theorem d2_take_75 : decode b2_take 75 = .ok (.iaload, 1) := by decide +kernel
theorem d2_take_76 : decode b2_take 76 = .ok (.istore_n 2, 1) := by decide +kernel
theorem d2_take_77 : decode b2_take 77 = .ok (.iload_n 2, 1) := by decide +kernel
theorem d2_take_78 : decode b2_take 78 = .ok (.iload_n 1, 1) := by decide +kernel
theorem d2_take_79 : decode b2_take 79 = .ok (.if_icmp .eq 18, 3) := by decide +kernel
theorem d2_take_82 : decode b2_take 82 = .ok (.iload_n 2, 1) := by decide +kernel
theorem d2_take_83 : decode b2_take 83 = .ok (.iconst 4, 1) := by decide +kernel
theorem d2_take_84 : decode b2_take 84 = .ok (.if_icmp .eq 13, 3) := by decide +kernel
theorem d2_take_87 : decode b2_take 87 = .ok (.iload_n 1, 1) := by decide +kernel
theorem d2_take_88 : decode b2_take 88 = .ok (.iconst 4, 1) := by decide +kernel
theorem d2_take_89 : decode b2_take 89 = .ok (.if_icmp .eq 8, 3) := by decide +kernel
theorem d2_take_92 : decode b2_take 92 = .ok (.aload_n 0, 1) := by decide +kernel
theorem d2_take_93 : decode b2_take 93 = .ok (.iconst 1, 1) := by decide +kernel
theorem d2_take_94 : decode b2_take 94 = .ok (.putfield 41, 3) := by decide +kernel
theorem d2_take_97 : decode b2_take 97 = .ok (.iload_n 2, 1) := by decide +kernel
theorem d2_take_98 : decode b2_take 98 = .ok (.ireturn, 1) := by decide +kernel
theorem d2_put_0 : decode b2_put 0 = .ok (.iload_n 1, 1) := by decide +kernel
theorem d2_put_1 : decode b2_put 1 = .ok (.ifCond .ne 4, 3) := by decide +kernel
theorem d2_put_4 : decode b2_put 4 = .ok (.return_, 1) := by decide +kernel
theorem d2_put_5 : decode b2_put 5 = .ok (.aload_n 0, 1) := by decide +kernel
theorem d2_put_6 : decode b2_put 6 = .ok (.getfield 34, 3) := by decide +kernel
theorem d2_put_9 : decode b2_put 9 = .ok (.ifCond .lt 12, 3) := by decide +kernel
theorem d2_put_12 : decode b2_put 12 = .ok (.aload_n 0, 1) := by decide +kernel
theorem d2_put_13 : decode b2_put 13 = .ok (.getfield 34, 3) := by decide +kernel
theorem d2_put_16 : decode b2_put 16 = .ok (.bipush 16, 2) := by decide +kernel
theorem d2_put_18 : decode b2_put 18 = .ok (.if_icmp .lt 9, 3) := by decide +kernel
theorem d2_put_21 : decode b2_put 21 = .ok (.aload_n 0, 1) := by decide +kernel
theorem d2_put_22 : decode b2_put 22 = .ok (.iconst 1, 1) := by decide +kernel
theorem d2_put_23 : decode b2_put 23 = .ok (.putfield 41, 3) := by decide +kernel
theorem d2_put_26 : decode b2_put 26 = .ok (.return_, 1) := by decide +kernel
theorem d2_put_27 : decode b2_put 27 = .ok (.aload_n 0, 1) := by decide +kernel
theorem d2_put_28 : decode b2_put 28 = .ok (.getfield 9, 3) := by decide +kernel
theorem d2_put_31 : decode b2_put 31 = .ok (.aload_n 0, 1) := by decide +kernel
theorem d2_put_32 : decode b2_put 32 = .ok (.getfield 34, 3) := by decide +kernel
theorem d2_put_35 : decode b2_put 35 = .ok (.iload_n 1, 1) := by decide +kernel
theorem d2_put_36 : decode b2_put 36 = .ok (.iastore, 1) := by decide +kernel
theorem d2_put_37 : decode b2_put 37 = .ok (.aload_n 0, 1) := by decide +kernel
theorem d2_put_38 : decode b2_put 38 = .ok (.dup, 1) := by decide +kernel
theorem d2_put_39 : decode b2_put 39 = .ok (.getfield 34, 3) := by decide +kernel
theorem d2_put_42 : decode b2_put 42 = .ok (.iconst 1, 1) := by decide +kernel
theorem d2_put_43 : decode b2_put 43 = .ok (.iadd, 1) := by decide +kernel
theorem d2_put_44 : decode b2_put 44 = .ok (.putfield 34, 3) := by decide +kernel
theorem d2_put_47 : decode b2_put 47 = .ok (.return_, 1) := by decide +kernel
theorem d2_die_0 : decode b2_die 0 = .ok (.aload_n 0, 1) := by decide +kernel
theorem d2_die_1 : decode b2_die 1 = .ok (.aload_n 0, 1) := by decide +kernel
theorem d2_die_2 : decode b2_die 2 = .ok (.getfield 30, 3) := by decide +kernel
theorem d2_die_5 : decode b2_die 5 = .ok (.getfield 130, 3) := by decide +kernel
theorem d2_die_8 : decode b2_die 8 = .ok (.putfield 34, 3) := by decide +kernel
theorem d2_die_11 : decode b2_die 11 = .ok (.aload_n 0, 1) := by decide +kernel
theorem d2_die_12 : decode b2_die 12 = .ok (.getfield 30, 3) := by decide +kernel
theorem d2_die_15 : decode b2_die 15 = .ok (.iconst 1, 1) := by decide +kernel
theorem d2_die_16 : decode b2_die 16 = .ok (.putfield 113, 3) := by decide +kernel
theorem d2_die_19 : decode b2_die 19 = .ok (.return_, 1) := by decide +kernel
theorem d3_init_0 : decode b3_init 0 = .ok (.aload_n 0, 1) := by decide +kernel
theorem d3_init_1 : decode b3_init 1 = .ok (.invokespecial 3, 3) := by decide +kernel
theorem d3_init_4 : decode b3_init 4 = .ok (.return_, 1) := by decide +kernel
theorem d3_open_0 : decode b3_open 0 = .ok (.aload_n 0, 1) := by decide +kernel
theorem d3_open_1 : decode b3_open 1 = .ok (.iload_n 1, 1) := by decide +kernel
theorem d3_open_2 : decode b3_open 2 = .ok (.putfield 9, 3) := by decide +kernel
theorem d3_open_5 : decode b3_open 5 = .ok (.aload_n 0, 1) := by decide +kernel
theorem d3_open_6 : decode b3_open 6 = .ok (.iload_n 2, 1) := by decide +kernel
theorem d3_open_7 : decode b3_open 7 = .ok (.putfield 15, 3) := by decide +kernel
theorem d3_open_10 : decode b3_open 10 = .ok (.aload_n 0, 1) := by decide +kernel
theorem d3_open_11 : decode b3_open 11 = .ok (.iload_n 3, 1) := by decide +kernel
theorem d3_open_12 : decode b3_open 12 = .ok (.putfield 18, 3) := by decide +kernel
theorem d3_open_15 : decode b3_open 15 = .ok (.aload_n 0, 1) := by decide +kernel
theorem d3_open_16 : decode b3_open 16 = .ok (.iload 4, 2) := by decide +kernel
theorem d3_open_18 : decode b3_open 18 = .ok (.putfield 21, 3) := by decide +kernel
theorem d3_open_21 : decode b3_open 21 = .ok (.aload_n 0, 1) := by decide +kernel
theorem d3_open_22 : decode b3_open 22 = .ok (.iconst 0, 1) := by decide +kernel
theorem d3_open_23 : decode b3_open 23 = .ok (.putfield 24, 3) := by decide +kernel
theorem d3_open_26 : decode b3_open 26 = .ok (.aload_n 0, 1) := by decide +kernel
theorem d3_open_27 : decode b3_open 27 = .ok (.iconst 0, 1) := by decide +kernel
theorem d3_open_28 : decode b3_open 28 = .ok (.putfield 28, 3) := by decide +kernel
theorem d3_open_31 : decode b3_open 31 = .ok (.return_, 1) := by decide +kernel
theorem d3_kindOfJump_0 : decode b3_kindOfJump 0 = .ok (.aload_n 0, 1) := by decide +kernel
theorem d3_kindOfJump_1 : decode b3_kindOfJump 1 = .ok (.getfield 15, 3) := by decide +kernel
theorem d3_kindOfJump_4 : decode b3_kindOfJump 4 = .ok (.iconst 3, 1) := by decide +kernel
theorem d3_kindOfJump_5 : decode b3_kindOfJump 5 = .ok (.if_icmp .ne 7, 3) := by decide +kernel
theorem d3_kindOfJump_8 : decode b3_kindOfJump 8 = .ok (.iconst 0, 1) := by decide +kernel
theorem d3_kindOfJump_9 : decode b3_kindOfJump 9 = .ok (.goto 7, 3) := by decide +kernel
theorem d3_kindOfJump_12 : decode b3_kindOfJump 12 = .ok (.aload_n 0, 1) := by decide +kernel
theorem d3_kindOfJump_13 : decode b3_kindOfJump 13 = .ok (.getfield 21, 3) := by decide +kernel
theorem d3_kindOfJump_16 : decode b3_kindOfJump 16 = .ok (.ireturn, 1) := by decide +kernel
theorem d3_lacksElse_0 : decode b3_lacksElse 0 = .ok (.aload_n 0, 1) := by decide +kernel
theorem d3_lacksElse_1 : decode b3_lacksElse 1 = .ok (.getfield 15, 3) := by decide +kernel
theorem d3_lacksElse_4 : decode b3_lacksElse 4 = .ok (.iconst 4, 1) := by decide +kernel
theorem d3_lacksElse_5 : decode b3_lacksElse 5 = .ok (.if_icmp .ne 14, 3) := by decide +kernel
theorem d3_lacksElse_8 : decode b3_lacksElse 8 = .ok (.aload_n 0, 1) := by decide +kernel
theorem d3_lacksElse_9 : decode b3_lacksElse 9 = .ok (.getfield 28, 3) := by decide +kernel
theorem d3_lacksElse_12 : decode b3_lacksElse 12 = .ok (.ifCond .ne 7, 3) := by decide +kernel
theorem d3_lacksElse_15 : decode b3_lacksElse 15 = .ok (.iconst 1, 1) := by decide +kernel
theorem d3_lacksElse_16 : decode b3_lacksElse 16 = .ok (.goto 4, 3) := by decide +kernel
theorem d3_lacksElse_19 : decode b3_lacksElse 19 = .ok (.iconst 0, 1) := by decide +kernel
theorem d3_lacksElse_20 : decode b3_lacksElse 20 = .ok (.ireturn, 1) := by decide +kernel
theorem d4_init_0 : decode b4_init 0 = .ok (.aload_n 0, 1) := by decide +kernel
theorem d4_init_1 : decode b4_init 1 = .ok (.invokespecial 3, 3) := by decide +kernel
theorem d4_init_4 : decode b4_init 4 = .ok (.aload_n 0, 1) := by decide +kernel
theorem d4_init_5 : decode b4_init 5 = .ok (.bipush 6, 2) := by decide +kernel
theorem d4_init_7 : decode b4_init 7 = .ok (.newarray .int, 2) := by decide +kernel
theorem d4_init_9 : decode b4_init 9 = .ok (.putfield 9, 3) := by decide +kernel
theorem d4_init_12 : decode b4_init 12 = .ok (.aload_n 0, 1) := by decide +kernel
theorem d4_init_13 : decode b4_init 13 = .ok (.bipush 60, 2) := by decide +kernel
theorem d4_init_15 : decode b4_init 15 = .ok (.newarray .int, 2) := by decide +kernel
theorem d4_init_17 : decode b4_init 17 = .ok (.putfield 15, 3) := by decide +kernel
theorem d4_init_20 : decode b4_init 20 = .ok (.aload_n 0, 1) := by decide +kernel
theorem d4_init_21 : decode b4_init 21 = .ok (.bipush 60, 2) := by decide +kernel
theorem d4_init_23 : decode b4_init 23 = .ok (.newarray .int, 2) := by decide +kernel
theorem d4_init_25 : decode b4_init 25 = .ok (.putfield 18, 3) := by decide +kernel
theorem d4_init_28 : decode b4_init 28 = .ok (.aload_n 0, 1) := by decide +kernel
theorem d4_init_29 : decode b4_init 29 = .ok (.bipush 60, 2) := by decide +kernel
theorem d4_init_31 : decode b4_init 31 = .ok (.newarray .int, 2) := by decide +kernel
theorem d4_init_33 : decode b4_init 33 = .ok (.putfield 21, 3) := by decide +kernel
theorem d4_init_36 : decode b4_init 36 = .ok (.return_, 1) := by decide +kernel
theorem d4_reshape_0 : decode b4_reshape 0 = .ok (.aload_n 0, 1) := by decide +kernel
theorem d4_reshape_1 : decode b4_reshape 1 = .ok (.iconst 0, 1) := by decide +kernel
theorem d4_reshape_2 : decode b4_reshape 2 = .ok (.putfield 24, 3) := by decide +kernel
theorem d4_reshape_5 : decode b4_reshape 5 = .ok (.aload_n 0, 1) := by decide +kernel
theorem d4_reshape_6 : decode b4_reshape 6 = .ok (.iload_n 1, 1) := by decide +kernel
theorem d4_reshape_7 : decode b4_reshape 7 = .ok (.invokevirtual 28, 3) := by decide +kernel
theorem d4_reshape_10 : decode b4_reshape 10 = .ok (.aload_n 0, 1) := by decide +kernel
theorem d4_reshape_11 : decode b4_reshape 11 = .ok (.aload_n 0, 1) := by decide +kernel
theorem d4_reshape_12 : decode b4_reshape 12 = .ok (.getfield 24, 3) := by decide +kernel
theorem d4_reshape_15 : decode b4_reshape 15 = .ok (.putfield 32, 3) := by decide +kernel
theorem d4_reshape_18 : decode b4_reshape 18 = .ok (.aload_n 0, 1) := by decide +kernel
theorem d4_reshape_19 : decode b4_reshape 19 = .ok (.iload_n 3, 1) := by decide +kernel
theorem d4_reshape_20 : decode b4_reshape 20 = .ok (.invokevirtual 28, 3) := by decide +kernel
theorem d4_reshape_23 : decode b4_reshape 23 = .ok (.aload_n 0, 1) := by decide +kernel
theorem d4_reshape_24 : decode b4_reshape 24 = .ok (.iload_n 2, 1) := by decide +kernel
theorem d4_reshape_25 : decode b4_reshape 25 = .ok (.putfield 35, 3) := by decide +kernel
theorem d4_reshape_28 : decode b4_reshape 28 = .ok (.aload_n 0, 1) := by decide +kernel
theorem d4_reshape_29 : decode b4_reshape 29 = .ok (.iconst 0, 1) := by decide +kernel
theorem d4_reshape_30 : decode b4_reshape 30 = .ok (.putfield 38, 3) := by decide +kernel
theorem d4_reshape_33 : decode b4_reshape 33 = .ok (.return_, 1) := by decide +kernel
theorem d4_addVariables_0 : decode b4_addVariables 0 = .ok (.aload_n 0, 1) := by decide +kernel
theorem d4_addVariables_1 : decode b4_addVariables 1 = .ok (.iload_n 1, 1) := by decide +kernel
theorem d4_addVariables_2 : decode b4_addVariables 2 = .ok (.bipush 100, 2) := by decide +kernel
theorem d4_addVariables_4 : decode b4_addVariables 4 = .ok (.idiv, 1) := by decide +kernel
theorem d4_addVariables_5 : decode b4_addVariables 5 = .ok (.invokevirtual 41, 3) := by decide +kernel
theorem d4_addVariables_8 : decode b4_addVariables 8 = .ok (.aload_n 0, 1) := by decide +kernel
theorem d4_addVariables_9 : decode b4_addVariables 9 = .ok (.iload_n 1, 1) := by decide +kernel
theorem d4_addVariables_10 : decode b4_addVariables 10 = .ok (.bipush 10, 2) := by decide +kernel
theorem d4_addVariables_12 : decode b4_addVariables 12 = .ok (.idiv, 1) := by decide +kernel
theorem d4_addVariables_13 : decode b4_addVariables 13 = .ok (.bipush 10, 2) := by decide +kernel
theorem d4_addVariables_15 : decode b4_addVariables 15 = .ok (.irem, 1) := by decide +kernel
theorem d4_addVariables_16 : decode b4_addVariables 16 = .ok (.invokevirtual 41, 3) := by decide +kernel
theorem d4_addVariables_19 : decode b4_addVariables 19 = .ok (.aload_n 0, 1) := by decide +kernel
theorem d4_addVariables_20 : decode b4_addVariables 20 = .ok (.iload_n 1, 1) := by decide +kernel
theorem d4_addVariables_21 : decode b4_addVariables 21 = .ok (.bipush 10, 2) := by decide +kernel
theorem d4_addVariables_23 : decode b4_addVariables 23 = .ok (.irem, 1) := by decide +kernel
theorem d4_addVariables_24 : decode b4_addVariables 24 = .ok (.invokevirtual 41, 3) := by decide +kernel
theorem d4_addVariables_27 : decode b4_addVariables 27 = .ok (.return_, 1) := by decide +kernel
theorem d4_addVariable_0 : decode b4_addVariable 0 = .ok (.iload_n 1, 1) := by decide +kernel
theorem d4_addVariable_1 : decode b4_addVariable 1 = .ok (.ifCond .eq 32, 3) := by decide +kernel
theorem d4_addVariable_4 : decode b4_addVariable 4 = .ok (.aload_n 0, 1) := by decide +kernel
theorem d4_addVariable_5 : decode b4_addVariable 5 = .ok (.getfield 24, 3) := by decide +kernel
theorem d4_addVariable_8 : decode b4_addVariable 8 = .ok (.bipush 6, 2) := by decide +kernel
theorem d4_addVariable_10 : decode b4_addVariable 10 = .ok (.if_icmp .ge 23, 3) := by decide +kernel
theorem d4_addVariable_13 : decode b4_addVariable 13 = .ok (.aload_n 0, 1) := by decide +kernel
theorem d4_addVariable_14 : decode b4_addVariable 14 = .ok (.getfield 9, 3) := by decide +kernel
theorem d4_addVariable_17 : decode b4_addVariable 17 = .ok (.aload_n 0, 1) := by decide +kernel
theorem d4_addVariable_18 : decode b4_addVariable 18 = .ok (.getfield 24, 3) := by decide +kernel
theorem d4_addVariable_21 : decode b4_addVariable 21 = .ok (.iload_n 1, 1) := by decide +kernel
theorem d4_addVariable_22 : decode b4_addVariable 22 = .ok (.iastore, 1) := by decide +kernel
theorem d4_addVariable_23 : decode b4_addVariable 23 = .ok (.aload_n 0, 1) := by decide +kernel
theorem d4_addVariable_24 : decode b4_addVariable 24 = .ok (.dup, 1) := by decide +kernel
theorem d4_addVariable_25 : decode b4_addVariable 25 = .ok (.getfield 24, 3) := by decide +kernel
theorem d4_addVariable_28 : decode b4_addVariable 28 = .ok (.iconst 1, 1) := by decide +kernel
theorem d4_addVariable_29 : decode b4_addVariable 29 = .ok (.iadd, 1) := by decide +kernel
theorem d4_addVariable_30 : decode b4_addVariable 30 = .ok (.putfield 24, 3) := by decide +kernel
theorem d4_addVariable_33 : decode b4_addVariable 33 = .ok (.return_, 1) := by decide +kernel
theorem d4_parameterCount_0 : decode b4_parameterCount 0 = .ok (.aload_n 0, 1) := by decide +kernel
theorem d4_parameterCount_1 : decode b4_parameterCount 1 = .ok (.getfield 32, 3) := by decide +kernel
theorem d4_parameterCount_4 : decode b4_parameterCount 4 = .ok (.ireturn, 1) := by decide +kernel
theorem d4_variableCount_0 : decode b4_variableCount 0 = .ok (.aload_n 0, 1) := by decide +kernel
theorem d4_variableCount_1 : decode b4_variableCount 1 = .ok (.getfield 24, 3) := by decide +kernel
theorem d4_variableCount_4 : decode b4_variableCount 4 = .ok (.ireturn, 1) := by decide +kernel
theorem d4_outcome_0 : decode b4_outcome 0 = .ok (.aload_n 0, 1) := by decide +kernel
theorem d4_outcome_1 : decode b4_outcome 1 = .ok (.getfield 35, 3) := by decide +kernel
theorem d4_outcome_4 : decode b4_outcome 4 = .ok (.ireturn, 1) := by decide +kernel
theorem d4_length_0 : decode b4_length 0 = .ok (.aload_n 0, 1) := by decide +kernel
theorem d4_length_1 : decode b4_length 1 = .ok (.getfield 38, 3) := by decide +kernel
theorem d4_length_4 : decode b4_length 4 = .ok (.ireturn, 1) := by decide +kernel
theorem d4_kindOf_0 : decode b4_kindOf 0 = .ok (.iload_n 1, 1) := by decide +kernel
theorem d4_kindOf_1 : decode b4_kindOf 1 = .ok (.ifCond .lt 20, 3) := by decide +kernel
theorem d4_kindOf_4 : decode b4_kindOf 4 = .ok (.iload_n 1, 1) := by decide +kernel
theorem d4_kindOf_5 : decode b4_kindOf 5 = .ok (.aload_n 0, 1) := by decide +kernel
theorem d4_kindOf_6 : decode b4_kindOf 6 = .ok (.getfield 24, 3) := by decide +kernel
theorem d4_kindOf_9 : decode b4_kindOf 9 = .ok (.if_icmp .ge 12, 3) := by decide +kernel
theorem d4_kindOf_12 : decode b4_kindOf 12 = .ok (.aload_n 0, 1) := by decide +kernel
theorem d4_kindOf_13 : decode b4_kindOf 13 = .ok (.getfield 9, 3) := by decide +kernel
theorem d4_kindOf_16 : decode b4_kindOf 16 = .ok (.iload_n 1, 1) := by decide +kernel
theorem d4_kindOf_17 : decode b4_kindOf 17 = .ok (.iaload, 1) := by decide +kernel
theorem d4_kindOf_18 : decode b4_kindOf 18 = .ok (.goto 4, 3) := by decide +kernel
theorem d4_kindOf_21 : decode b4_kindOf 21 = .ok (.iconst 0, 1) := by decide +kernel
theorem d4_kindOf_22 : decode b4_kindOf 22 = .ok (.ireturn, 1) := by decide +kernel
theorem d4_isCalledLike_0 : decode b4_isCalledLike 0 = .ok (.aload_n 0, 1) := by decide +kernel
theorem d4_isCalledLike_1 : decode b4_isCalledLike 1 = .ok (.getfield 32, 3) := by decide +kernel
theorem d4_isCalledLike_4 : decode b4_isCalledLike 4 = .ok (.aload_n 1, 1) := by decide +kernel
theorem d4_isCalledLike_5 : decode b4_isCalledLike 5 = .ok (.getfield 32, 3) := by decide +kernel
theorem d4_isCalledLike_8 : decode b4_isCalledLike 8 = .ok (.if_icmp .ne 14, 3) := by decide +kernel
theorem d4_isCalledLike_11 : decode b4_isCalledLike 11 = .ok (.aload_n 0, 1) := by decide +kernel
theorem d4_isCalledLike_12 : decode b4_isCalledLike 12 = .ok (.getfield 35, 3) := by decide +kernel
theorem d4_isCalledLike_15 : decode b4_isCalledLike 15 = .ok (.aload_n 1, 1) := by decide +kernel
theorem d4_isCalledLike_16 : decode b4_isCalledLike 16 = .ok (.getfield 35, 3) := by decide +kernel
theorem d4_isCalledLike_19 : decode b4_isCalledLike 19 = .ok (.if_icmp .eq 5, 3) := by decide +kernel
theorem d4_isCalledLike_22 : decode b4_isCalledLike 22 = .ok (.iconst 0, 1) := by decide +kernel
theorem d4_isCalledLike_23 : decode b4_isCalledLike 23 = .ok (.ireturn, 1) := by decide +kernel
theorem d4_isCalledLike_24 : decode b4_isCalledLike 24 = .ok (.iconst 0, 1) := by decide +kernel
theorem d4_isCalledLike_25 : decode b4_isCalledLike 25 = .ok (.istore_n 2, 1) := by decide +kernel
theorem d4_isCalledLike_26 : decode b4_isCalledLike 26 = .ok (.iload_n 2, 1) := by decide +kernel
theorem d4_isCalledLike_27 : decode b4_isCalledLike 27 = .ok (.aload_n 0, 1) := by decide +kernel
theorem d4_isCalledLike_28 : decode b4_isCalledLike 28 = .ok (.getfield 32, 3) := by decide +kernel
theorem d4_isCalledLike_31 : decode b4_isCalledLike 31 = .ok (.if_icmp .ge 24, 3) := by decide +kernel
theorem d4_isCalledLike_34 : decode b4_isCalledLike 34 = .ok (.aload_n 0, 1) := by decide +kernel
theorem d4_isCalledLike_35 : decode b4_isCalledLike 35 = .ok (.iload_n 2, 1) := by decide +kernel
theorem d4_isCalledLike_36 : decode b4_isCalledLike 36 = .ok (.invokevirtual 44, 3) := by decide +kernel
theorem d4_isCalledLike_39 : decode b4_isCalledLike 39 = .ok (.aload_n 1, 1) := by decide +kernel
theorem d4_isCalledLike_40 : decode b4_isCalledLike 40 = .ok (.iload_n 2, 1) := by decide +kernel
theorem d4_isCalledLike_41 : decode b4_isCalledLike 41 = .ok (.invokevirtual 44, 3) := by decide +kernel
theorem d4_isCalledLike_44 : decode b4_isCalledLike 44 = .ok (.if_icmp .eq 5, 3) := by decide +kernel
theorem d4_isCalledLike_47 : decode b4_isCalledLike 47 = .ok (.iconst 0, 1) := by decide +kernel
theorem d4_isCalledLike_48 : decode b4_isCalledLike 48 = .ok (.ireturn, 1) := by decide +kernel
theorem d4_isCalledLike_49 : decode b4_isCalledLike 49 = .ok (.iinc 2 1, 3) := by decide +kernel
theorem d4_isCalledLike_52 : decode b4_isCalledLike 52 = .ok (.goto (-26), 3) := by decide +kernel
theorem d4_isCalledLike_55 : decode b4_isCalledLike 55 = .ok (.iconst 1, 1) := by decide +kernel
theorem d4_isCalledLike_56 : decode b4_isCalledLike 56 = .ok (.ireturn, 1) := by decide +kernel
theorem d4_append_0 : decode b4_append 0 = .ok (.aload_n 0, 1) := by decide +kernel
theorem d4_append_1 : decode b4_append 1 = .ok (.getfield 38, 3) := by decide +kernel
theorem d4_append_4 : decode b4_append 4 = .ok (.bipush 60, 2) := by decide +kernel
theorem d4_append_6 : decode b4_append 6 = .ok (.if_icmp .ge 23, 3) := by decide +kernel
theorem d4_append_9 : decode b4_append 9 = .ok (.aload_n 0, 1) := by decide +kernel
theorem d4_append_10 : decode b4_append 10 = .ok (.getfield 15, 3) := by decide +kernel
theorem d4_append_13 : decode b4_append 13 = .ok (.aload_n 0, 1) := by decide +kernel
theorem d4_append_14 : decode b4_append 14 = .ok (.getfield 38, 3) := by decide +kernel
theorem d4_append_17 : decode b4_append 17 = .ok (.iload_n 1, 1) := by decide +kernel
theorem d4_append_18 : decode b4_append 18 = .ok (.iastore, 1) := by decide +kernel
theorem d4_append_19 : decode b4_append 19 = .ok (.aload_n 0, 1) := by decide +kernel
theorem d4_append_20 : decode b4_append 20 = .ok (.dup, 1) := by decide +kernel
theorem d4_append_21 : decode b4_append 21 = .ok (.getfield 38, 3) := by decide +kernel
theorem d4_append_24 : decode b4_append 24 = .ok (.iconst 1, 1) := by decide +kernel
theorem d4_append_25 : decode b4_append 25 = .ok (.iadd, 1) := by decide +kernel
theorem d4_append_26 : decode b4_append 26 = .ok (.putfield 38, 3) := by decide +kernel
theorem d4_append_29 : decode b4_append 29 = .ok (.return_, 1) := by decide +kernel
theorem d4_byteAt_0 : decode b4_byteAt 0 = .ok (.iload_n 1, 1) := by decide +kernel
theorem d4_byteAt_1 : decode b4_byteAt 1 = .ok (.ifCond .lt 20, 3) := by decide +kernel
theorem d4_byteAt_4 : decode b4_byteAt 4 = .ok (.iload_n 1, 1) := by decide +kernel
theorem d4_byteAt_5 : decode b4_byteAt 5 = .ok (.aload_n 0, 1) := by decide +kernel
theorem d4_byteAt_6 : decode b4_byteAt 6 = .ok (.getfield 38, 3) := by decide +kernel
theorem d4_byteAt_9 : decode b4_byteAt 9 = .ok (.if_icmp .ge 12, 3) := by decide +kernel
theorem d4_byteAt_12 : decode b4_byteAt 12 = .ok (.aload_n 0, 1) := by decide +kernel
theorem d4_byteAt_13 : decode b4_byteAt 13 = .ok (.getfield 15, 3) := by decide +kernel
theorem d4_byteAt_16 : decode b4_byteAt 16 = .ok (.iload_n 1, 1) := by decide +kernel
theorem d4_byteAt_17 : decode b4_byteAt 17 = .ok (.iaload, 1) := by decide +kernel
theorem d4_byteAt_18 : decode b4_byteAt 18 = .ok (.goto 4, 3) := by decide +kernel
theorem d4_byteAt_21 : decode b4_byteAt 21 = .ok (.iconst 0, 1) := by decide +kernel
theorem d4_byteAt_22 : decode b4_byteAt 22 = .ok (.ireturn, 1) := by decide +kernel
theorem d4_sizeAt_0 : decode b4_sizeAt 0 = .ok (.aload_n 0, 1) := by decide +kernel
theorem d4_sizeAt_1 : decode b4_sizeAt 1 = .ok (.iload_n 1, 1) := by decide +kernel
theorem d4_sizeAt_2 : decode b4_sizeAt 2 = .ok (.invokevirtual 48, 3) := by decide +kernel
theorem d4_sizeAt_5 : decode b4_sizeAt 5 = .ok (.istore_n 2, 1) := by decide +kernel
theorem d4_sizeAt_6 : decode b4_sizeAt 6 = .ok (.iload_n 2, 1) := by decide +kernel
theorem d4_sizeAt_7 : decode b4_sizeAt 7 = .ok (.invokestatic 51, 3) := by decide +kernel
theorem d4_sizeAt_10 : decode b4_sizeAt 10 = .ok (.ifCond .ne 5, 3) := by decide +kernel
theorem d4_sizeAt_13 : decode b4_sizeAt 13 = .ok (.iconst 0, 1) := by decide +kernel
theorem d4_sizeAt_14 : decode b4_sizeAt 14 = .ok (.ireturn, 1) := by decide +kernel
theorem d4_sizeAt_15 : decode b4_sizeAt 15 = .ok (.iload_n 2, 1) := by decide +kernel
theorem d4_sizeAt_16 : decode b4_sizeAt 16 = .ok (.bipush 9, 2) := by decide +kernel
theorem d4_sizeAt_18 : decode b4_sizeAt 18 = .ok (.if_icmp .ne 24, 3) := by decide +kernel
theorem d4_sizeAt_21 : decode b4_sizeAt 21 = .ok (.aload_n 0, 1) := by decide +kernel
theorem d4_sizeAt_22 : decode b4_sizeAt 22 = .ok (.iload_n 1, 1) := by decide +kernel
theorem d4_sizeAt_23 : decode b4_sizeAt 23 = .ok (.iconst 1, 1) := by decide +kernel
theorem d4_sizeAt_24 : decode b4_sizeAt 24 = .ok (.iadd, 1) := by decide +kernel
theorem d4_sizeAt_25 : decode b4_sizeAt 25 = .ok (.invokevirtual 48, 3) := by decide +kernel
theorem d4_sizeAt_28 : decode b4_sizeAt 28 = .ok (.istore_n 3, 1) := by decide +kernel
theorem d4_sizeAt_29 : decode b4_sizeAt 29 = .ok (.iload_n 3, 1) := by decide +kernel
theorem d4_sizeAt_30 : decode b4_sizeAt 30 = .ok (.iconst 3, 1) := by decide +kernel
theorem d4_sizeAt_31 : decode b4_sizeAt 31 = .ok (.if_icmp .le 7, 3) := by decide +kernel
theorem d4_sizeAt_34 : decode b4_sizeAt 34 = .ok (.iconst 0, 1) := by decide +kernel
theorem d4_sizeAt_35 : decode b4_sizeAt 35 = .ok (.goto 6, 3) := by decide +kernel
theorem d4_sizeAt_38 : decode b4_sizeAt 38 = .ok (.iload_n 3, 1) := by decide +kernel
theorem d4_sizeAt_39 : decode b4_sizeAt 39 = .ok (.iconst 3, 1) := by decide +kernel
theorem d4_sizeAt_40 : decode b4_sizeAt 40 = .ok (.iadd, 1) := by decide +kernel
theorem d4_sizeAt_41 : decode b4_sizeAt 41 = .ok (.ireturn, 1) := by decide +kernel
theorem d4_sizeAt_42 : decode b4_sizeAt 42 = .ok (.iload_n 2, 1) := by decide +kernel
theorem d4_sizeAt_43 : decode b4_sizeAt 43 = .ok (.invokestatic 57, 3) := by decide +kernel
theorem d4_sizeAt_46 : decode b4_sizeAt 46 = .ok (.ifCond .eq 7, 3) := by decide +kernel
theorem d4_sizeAt_49 : decode b4_sizeAt 49 = .ok (.iconst 2, 1) := by decide +kernel
theorem d4_sizeAt_50 : decode b4_sizeAt 50 = .ok (.goto 4, 3) := by decide +kernel
theorem d4_sizeAt_53 : decode b4_sizeAt 53 = .ok (.iconst 1, 1) := by decide +kernel
theorem d4_sizeAt_54 : decode b4_sizeAt 54 = .ok (.ireturn, 1) := by decide +kernel
theorem d4_noteElse_0 : decode b4_noteElse 0 = .ok (.iload_n 1, 1) := by decide +kernel
theorem d4_noteElse_1 : decode b4_noteElse 1 = .ok (.ifCond .lt 16, 3) := by decide +kernel
theorem d4_noteElse_4 : decode b4_noteElse 4 = .ok (.iload_n 1, 1) := by decide +kernel
theorem d4_noteElse_5 : decode b4_noteElse 5 = .ok (.bipush 60, 2) := by decide +kernel
theorem d4_noteElse_7 : decode b4_noteElse 7 = .ok (.if_icmp .ge 10, 3) := by decide +kernel
theorem d4_noteElse_10 : decode b4_noteElse 10 = .ok (.aload_n 0, 1) := by decide +kernel
theorem d4_noteElse_11 : decode b4_noteElse 11 = .ok (.getfield 18, 3) := by decide +kernel
theorem d4_noteElse_14 : decode b4_noteElse 14 = .ok (.iload_n 1, 1) := by decide +kernel
theorem d4_noteElse_15 : decode b4_noteElse 15 = .ok (.iload_n 2, 1) := by decide +kernel
theorem d4_noteElse_16 : decode b4_noteElse 16 = .ok (.iastore, 1) := by decide +kernel
theorem d4_noteElse_17 : decode b4_noteElse 17 = .ok (.return_, 1) := by decide +kernel
theorem d4_noteEnd_0 : decode b4_noteEnd 0 = .ok (.iload_n 1, 1) := by decide +kernel
theorem d4_noteEnd_1 : decode b4_noteEnd 1 = .ok (.ifCond .lt 16, 3) := by decide +kernel
theorem d4_noteEnd_4 : decode b4_noteEnd 4 = .ok (.iload_n 1, 1) := by decide +kernel
theorem d4_noteEnd_5 : decode b4_noteEnd 5 = .ok (.bipush 60, 2) := by decide +kernel
theorem d4_noteEnd_7 : decode b4_noteEnd 7 = .ok (.if_icmp .ge 10, 3) := by decide +kernel
theorem d4_noteEnd_10 : decode b4_noteEnd 10 = .ok (.aload_n 0, 1) := by decide +kernel
theorem d4_noteEnd_11 : decode b4_noteEnd 11 = .ok (.getfield 21, 3) := by decide +kernel
theorem d4_noteEnd_14 : decode b4_noteEnd 14 = .ok (.iload_n 1, 1) := by decide +kernel
theorem d4_noteEnd_15 : decode b4_noteEnd 15 = .ok (.iload_n 2, 1) := by decide +kernel
theorem d4_noteEnd_16 : decode b4_noteEnd 16 = .ok (.iastore, 1) := by decide +kernel
theorem d4_noteEnd_17 : decode b4_noteEnd 17 = .ok (.return_, 1) := by decide +kernel
theorem d4_behindElse_0 : decode b4_behindElse 0 = .ok (.iload_n 1, 1) := by decide +kernel
theorem d4_behindElse_1 : decode b4_behindElse 1 = .ok (.ifCond .lt 18, 3) := by decide +kernel
theorem d4_behindElse_4 : decode b4_behindElse 4 = .ok (.iload_n 1, 1) := by decide +kernel
theorem d4_behindElse_5 : decode b4_behindElse 5 = .ok (.bipush 60, 2) := by decide +kernel
theorem d4_behindElse_7 : decode b4_behindElse 7 = .ok (.if_icmp .ge 12, 3) := by decide +kernel
theorem d4_behindElse_10 : decode b4_behindElse 10 = .ok (.aload_n 0, 1) := by decide +kernel
theorem d4_behindElse_11 : decode b4_behindElse 11 = .ok (.getfield 18, 3) := by decide +kernel
theorem d4_behindElse_14 : decode b4_behindElse 14 = .ok (.iload_n 1, 1) := by decide +kernel
theorem d4_behindElse_15 : decode b4_behindElse 15 = .ok (.iaload, 1) := by decide +kernel
theorem d4_behindElse_16 : decode b4_behindElse 16 = .ok (.goto 4, 3) := by decide +kernel
theorem d4_behindElse_19 : decode b4_behindElse 19 = .ok (.iconst 0, 1) := by decide +kernel
theorem d4_behindElse_20 : decode b4_behindElse 20 = .ok (.ireturn, 1) := by decide +kernel
theorem d4_behindEnd_0 : decode b4_behindEnd 0 = .ok (.iload_n 1, 1) := by decide +kernel
theorem d4_behindEnd_1 : decode b4_behindEnd 1 = .ok (.ifCond .lt 18, 3) := by decide +kernel
theorem d4_behindEnd_4 : decode b4_behindEnd 4 = .ok (.iload_n 1, 1) := by decide +kernel
theorem d4_behindEnd_5 : decode b4_behindEnd 5 = .ok (.bipush 60, 2) := by decide +kernel
theorem d4_behindEnd_7 : decode b4_behindEnd 7 = .ok (.if_icmp .ge 12, 3) := by decide +kernel
theorem d4_behindEnd_10 : decode b4_behindEnd 10 = .ok (.aload_n 0, 1) := by decide +kernel
theorem d4_behindEnd_11 : decode b4_behindEnd 11 = .ok (.getfield 21, 3) := by decide +kernel
theorem d4_behindEnd_14 : decode b4_behindEnd 14 = .ok (.iload_n 1, 1) := by decide +kernel
theorem d4_behindEnd_15 : decode b4_behindEnd 15 = .ok (.iaload, 1) := by decide +kernel
theorem d4_behindEnd_16 : decode b4_behindEnd 16 = .ok (.goto 4, 3) := by decide +kernel
theorem d4_behindEnd_19 : decode b4_behindEnd 19 = .ok (.iconst 0, 1) := by decide +kernel
theorem d4_behindEnd_20 : decode b4_behindEnd 20 = .ok (.ireturn, 1) := by decide +kernel
theorem d5_signature_0 : decode b5_signature 0 = .ok (.iload_n 0, 1) := by decide +kernel
theorem d5_signature_1 : decode b5_signature 1 = .ok (.bipush 30, 2) := by decide +kernel
theorem d5_signature_3 : decode b5_signature 3 = .ok (.if_icmp .lt 12, 3) := by decide +kernel
theorem d5_signature_6 : decode b5_signature 6 = .ok (.iload_n 0, 1) := by decide +kernel
theorem d5_signature_7 : decode b5_signature 7 = .ok (.bipush 45, 2) := by decide +kernel
theorem d5_signature_9 : decode b5_signature 9 = .ok (.if_icmp .ge 6, 3) := by decide +kernel
theorem d5_signature_12 : decode b5_signature 12 = .ok (.bipush 111, 2) := by decide +kernel
theorem d5_signature_14 : decode b5_signature 14 = .ok (.ireturn, 1) := by decide +kernel
theorem d5_signature_15 : decode b5_signature 15 = .ok (.iload_n 0, 1) := by decide +kernel
theorem d5_signature_16 : decode b5_signature 16 = .ok (.bipush 50, 2) := by decide +kernel
theorem d5_signature_18 : decode b5_signature 18 = .ok (.if_icmp .lt 25, 3) := by decide +kernel
theorem d5_signature_21 : decode b5_signature 21 = .ok (.iload_n 0, 1) := by decide +kernel
theorem d5_signature_22 : decode b5_signature 22 = .ok (.bipush 64, 2) := by decide +kernel
theorem d5_signature_24 : decode b5_signature 24 = .ok (.if_icmp .ge 19, 3) := by decide +kernel
theorem d5_signature_27 : decode b5_signature 27 = .ok (.iload_n 0, 1) := by decide +kernel
theorem d5_signature_28 : decode b5_signature 28 = .ok (.bipush 60, 2) := by decide +kernel
theorem d5_signature_30 : decode b5_signature 30 = .ok (.if_icmp .gt 9, 3) := by decide +kernel
theorem d5_signature_33 : decode b5_signature 33 = .ok (.sipush 222, 3) := by decide +kernel
theorem d5_signature_36 : decode b5_signature 36 = .ok (.goto 6, 3) := by decide +kernel
theorem d5_signature_39 : decode b5_signature 39 = .ok (.sipush 221, 3) := by decide +kernel
theorem d5_signature_42 : decode b5_signature 42 = .ok (.ireturn, 1) := by decide +kernel
theorem d5_signature_43 : decode b5_signature 43 = .ok (.iload_n 0, 1) := by decide +kernel
theorem d5_signature_44 : decode b5_signature 44 = .ok (.bipush 70, 2) := by decide +kernel
theorem d5_signature_46 : decode b5_signature 46 = .ok (.if_icmp .lt 25, 3) := by decide +kernel
theorem d5_signature_49 : decode b5_signature 49 = .ok (.iload_n 0, 1) := by decide +kernel
theorem d5_signature_50 : decode b5_signature 50 = .ok (.bipush 76, 2) := by decide +kernel
theorem d5_signature_52 : decode b5_signature 52 = .ok (.if_icmp .ge 19, 3) := by decide +kernel
theorem d5_signature_55 : decode b5_signature 55 = .ok (.iload_n 0, 1) := by decide +kernel
theorem d5_signature_56 : decode b5_signature 56 = .ok (.bipush 73, 2) := by decide +kernel
theorem d5_signature_58 : decode b5_signature 58 = .ok (.if_icmp .gt 9, 3) := by decide +kernel
theorem d5_signature_61 : decode b5_signature 61 = .ok (.sipush 333, 3) := by decide +kernel
theorem d5_signature_64 : decode b5_signature 64 = .ok (.goto 6, 3) := by decide +kernel
theorem d5_signature_67 : decode b5_signature 67 = .ok (.sipush 331, 3) := by decide +kernel
theorem d5_signature_70 : decode b5_signature 70 = .ok (.ireturn, 1) := by decide +kernel
theorem d5_signature_71 : decode b5_signature 71 = .ok (.iload_n 0, 1) := by decide +kernel
theorem d5_signature_72 : decode b5_signature 72 = .ok (.tableswitch 396 1 85 #[356, 396, 396, 396, 396, 396, 396, 396, 396, 396, 396, 396, 396, 396, 396, 396, 396, 396, 396, 358, 360, 362, 364, 364, 374, 367, 367, 370, 396, 396, 396, 396, 396, 396, 396, 396, 396, 396, 396, 396, 396, 396, 396, 396, 364, 396, 396, 396, 396, 396, 396, 396, 396, 396, 396, 396, 396, 396, 396, 396, 396, 396, 396, 377, 396, 396, 396, 396, 396, 396, 396, 396, 396, 396, 396, 381, 396, 396, 396, 377, 374, 385, 388, 392, 374], 356) := by decide +kernel
theorem d5_signature_428 : decode b5_signature 428 = .ok (.iconst 0, 1) := by decide +kernel
theorem d5_signature_429 : decode b5_signature 429 = .ok (.ireturn, 1) := by decide +kernel
theorem d5_signature_430 : decode b5_signature 430 = .ok (.iconst 1, 1) := by decide +kernel
theorem d5_signature_431 : decode b5_signature 431 = .ok (.ireturn, 1) := by decide +kernel
theorem d5_signature_432 : decode b5_signature 432 = .ok (.iconst 2, 1) := by decide +kernel
theorem d5_signature_433 : decode b5_signature 433 = .ok (.ireturn, 1) := by decide +kernel
theorem d5_signature_434 : decode b5_signature 434 = .ok (.iconst 3, 1) := by decide +kernel
theorem d5_signature_435 : decode b5_signature 435 = .ok (.ireturn, 1) := by decide +kernel
theorem d5_signature_436 : decode b5_signature 436 = .ok (.bipush 101, 2) := by decide +kernel
theorem d5_signature_438 : decode b5_signature 438 = .ok (.ireturn, 1) := by decide +kernel
theorem d5_signature_439 : decode b5_signature 439 = .ok (.bipush 110, 2) := by decide +kernel
theorem d5_signature_441 : decode b5_signature 441 = .ok (.ireturn, 1) := by decide +kernel
theorem d5_signature_442 : decode b5_signature 442 = .ok (.sipush 210, 3) := by decide +kernel
theorem d5_signature_445 : decode b5_signature 445 = .ok (.ireturn, 1) := by decide +kernel
theorem d5_signature_446 : decode b5_signature 446 = .ok (.bipush 102, 2) := by decide +kernel
theorem d5_signature_448 : decode b5_signature 448 = .ok (.ireturn, 1) := by decide +kernel
theorem d5_signature_449 : decode b5_signature 449 = .ok (.sipush 201, 3) := by decide +kernel
theorem d5_signature_452 : decode b5_signature 452 = .ok (.ireturn, 1) := by decide +kernel
theorem d5_signature_453 : decode b5_signature 453 = .ok (.sipush 303, 3) := by decide +kernel
theorem d5_signature_456 : decode b5_signature 456 = .ok (.ireturn, 1) := by decide +kernel
theorem d5_signature_457 : decode b5_signature 457 = .ok (.bipush 103, 2) := by decide +kernel
theorem d5_signature_459 : decode b5_signature 459 = .ok (.ireturn, 1) := by decide +kernel
theorem d5_signature_460 : decode b5_signature 460 = .ok (.sipush 301, 3) := by decide +kernel
theorem d5_signature_463 : decode b5_signature 463 = .ok (.ireturn, 1) := by decide +kernel
theorem d5_signature_464 : decode b5_signature 464 = .ok (.sipush 203, 3) := by decide +kernel
theorem d5_signature_467 : decode b5_signature 467 = .ok (.ireturn, 1) := by decide +kernel
theorem d5_signature_468 : decode b5_signature 468 = .ok (.iconst (-1), 1) := by decide +kernel
theorem d5_signature_469 : decode b5_signature 469 = .ok (.ireturn, 1) := by decide +kernel
theorem d5_isKnown_0 : decode b5_isKnown 0 = .ok (.iload_n 0, 1) := by decide +kernel
theorem d5_isKnown_1 : decode b5_isKnown 1 = .ok (.ifCond .lt 9, 3) := by decide +kernel
theorem d5_isKnown_4 : decode b5_isKnown 4 = .ok (.iload_n 0, 1) := by decide +kernel
theorem d5_isKnown_5 : decode b5_isKnown 5 = .ok (.bipush 19, 2) := by decide +kernel
theorem d5_isKnown_7 : decode b5_isKnown 7 = .ok (.if_icmp .le 11, 3) := by decide +kernel
theorem d5_isKnown_10 : decode b5_isKnown 10 = .ok (.iload_n 0, 1) := by decide +kernel
theorem d5_isKnown_11 : decode b5_isKnown 11 = .ok (.invokestatic 9, 3) := by decide +kernel
theorem d5_isKnown_14 : decode b5_isKnown 14 = .ok (.iconst (-1), 1) := by decide +kernel
theorem d5_isKnown_15 : decode b5_isKnown 15 = .ok (.if_icmp .eq 7, 3) := by decide +kernel
theorem d5_isKnown_18 : decode b5_isKnown 18 = .ok (.iconst 1, 1) := by decide +kernel
theorem d5_isKnown_19 : decode b5_isKnown 19 = .ok (.goto 4, 3) := by decide +kernel
theorem d5_isKnown_22 : decode b5_isKnown 22 = .ok (.iconst 0, 1) := by decide +kernel
theorem d5_isKnown_23 : decode b5_isKnown 23 = .ok (.ireturn, 1) := by decide +kernel
theorem d5_hasOperand_0 : decode b5_hasOperand 0 = .ok (.iload_n 0, 1) := by decide +kernel
theorem d5_hasOperand_1 : decode b5_hasOperand 1 = .ok (.iconst 2, 1) := by decide +kernel
theorem d5_hasOperand_2 : decode b5_hasOperand 2 = .ok (.if_icmp .lt 8, 3) := by decide +kernel
theorem d5_hasOperand_5 : decode b5_hasOperand 5 = .ok (.iload_n 0, 1) := by decide +kernel
theorem d5_hasOperand_6 : decode b5_hasOperand 6 = .ok (.iconst 4, 1) := by decide +kernel
theorem d5_hasOperand_7 : decode b5_hasOperand 7 = .ok (.if_icmp .le 39, 3) := by decide +kernel
theorem d5_hasOperand_10 : decode b5_hasOperand 10 = .ok (.iload_n 0, 1) := by decide +kernel
theorem d5_hasOperand_11 : decode b5_hasOperand 11 = .ok (.bipush 7, 2) := by decide +kernel
theorem d5_hasOperand_13 : decode b5_hasOperand 13 = .ok (.if_icmp .lt 9, 3) := by decide +kernel
theorem d5_hasOperand_16 : decode b5_hasOperand 16 = .ok (.iload_n 0, 1) := by decide +kernel
theorem d5_hasOperand_17 : decode b5_hasOperand 17 = .ok (.bipush 9, 2) := by decide +kernel
theorem d5_hasOperand_19 : decode b5_hasOperand 19 = .ok (.if_icmp .le 27, 3) := by decide +kernel
theorem d5_hasOperand_22 : decode b5_hasOperand 22 = .ok (.iload_n 0, 1) := by decide +kernel
theorem d5_hasOperand_23 : decode b5_hasOperand 23 = .ok (.bipush 11, 2) := by decide +kernel
theorem d5_hasOperand_25 : decode b5_hasOperand 25 = .ok (.if_icmp .eq 21, 3) := by decide +kernel
theorem d5_hasOperand_28 : decode b5_hasOperand 28 = .ok (.iload_n 0, 1) := by decide +kernel
theorem d5_hasOperand_29 : decode b5_hasOperand 29 = .ok (.bipush 12, 2) := by decide +kernel
theorem d5_hasOperand_31 : decode b5_hasOperand 31 = .ok (.if_icmp .eq 15, 3) := by decide +kernel
theorem d5_hasOperand_34 : decode b5_hasOperand 34 = .ok (.iload_n 0, 1) := by decide +kernel
theorem d5_hasOperand_35 : decode b5_hasOperand 35 = .ok (.bipush 15, 2) := by decide +kernel
theorem d5_hasOperand_37 : decode b5_hasOperand 37 = .ok (.if_icmp .lt 13, 3) := by decide +kernel
theorem d5_hasOperand_40 : decode b5_hasOperand 40 = .ok (.iload_n 0, 1) := by decide +kernel
theorem d5_hasOperand_41 : decode b5_hasOperand 41 = .ok (.bipush 28, 2) := by decide +kernel
theorem d5_hasOperand_43 : decode b5_hasOperand 43 = .ok (.if_icmp .gt 7, 3) := by decide +kernel
theorem d5_hasOperand_46 : decode b5_hasOperand 46 = .ok (.iconst 1, 1) := by decide +kernel
theorem d5_hasOperand_47 : decode b5_hasOperand 47 = .ok (.goto 4, 3) := by decide +kernel
theorem d5_hasOperand_50 : decode b5_hasOperand 50 = .ok (.iconst 0, 1) := by decide +kernel
theorem d5_hasOperand_51 : decode b5_hasOperand 51 = .ok (.ireturn, 1) := by decide +kernel
theorem d6_init_0 : decode b6_init 0 = .ok (.aload_n 0, 1) := by decide +kernel
theorem d6_init_1 : decode b6_init 1 = .ok (.invokespecial 3, 3) := by decide +kernel
theorem d6_init_4 : decode b6_init 4 = .ok (.aload_n 0, 1) := by decide +kernel
theorem d6_init_5 : decode b6_init 5 = .ok (.bipush 6, 2) := by decide +kernel
theorem d6_init_7 : decode b6_init 7 = .ok (.anewarray 9, 3) := by decide +kernel
theorem d6_init_10 : decode b6_init 10 = .ok (.putfield 11, 3) := by decide +kernel
theorem d6_init_13 : decode b6_init 13 = .ok (.aload_n 0, 1) := by decide +kernel
theorem d6_init_14 : decode b6_init 14 = .ok (.new 17, 3) := by decide +kernel
theorem d6_init_17 : decode b6_init 17 = .ok (.dup, 1) := by decide +kernel
theorem d6_init_18 : decode b6_init 18 = .ok (.invokespecial 19, 3) := by decide +kernel
theorem d6_init_21 : decode b6_init 21 = .ok (.putfield 20, 3) := by decide +kernel
theorem d6_init_24 : decode b6_init 24 = .ok (.aload_n 0, 1) := by decide +kernel
theorem d6_init_25 : decode b6_init 25 = .ok (.new 24, 3) := by decide +kernel
theorem d6_init_28 : decode b6_init 28 = .ok (.dup, 1) := by decide +kernel
theorem d6_init_29 : decode b6_init 29 = .ok (.iconst 3, 1) := by decide +kernel
theorem d6_init_30 : decode b6_init 30 = .ok (.invokespecial 26, 3) := by decide +kernel
theorem d6_init_33 : decode b6_init 33 = .ok (.putfield 29, 3) := by decide +kernel
theorem d6_init_36 : decode b6_init 36 = .ok (.aload_n 0, 1) := by decide +kernel
theorem d6_init_37 : decode b6_init 37 = .ok (.new 24, 3) := by decide +kernel
theorem d6_init_40 : decode b6_init 40 = .ok (.dup, 1) := by decide +kernel
theorem d6_init_41 : decode b6_init 41 = .ok (.iconst 1, 1) := by decide +kernel
theorem d6_init_42 : decode b6_init 42 = .ok (.invokespecial 26, 3) := by decide +kernel
theorem d6_init_45 : decode b6_init 45 = .ok (.putfield 33, 3) := by decide +kernel
theorem d6_init_48 : decode b6_init 48 = .ok (.aload_n 0, 1) := by decide +kernel
theorem d6_init_49 : decode b6_init 49 = .ok (.aload_n 1, 1) := by decide +kernel
theorem d6_init_50 : decode b6_init 50 = .ok (.putfield 36, 3) := by decide +kernel
theorem d6_init_53 : decode b6_init 53 = .ok (.aload_n 0, 1) := by decide +kernel
theorem d6_init_54 : decode b6_init 54 = .ok (.aload_n 2, 1) := by decide +kernel
theorem d6_init_55 : decode b6_init 55 = .ok (.putfield 40, 3) := by decide +kernel
theorem d6_init_58 : decode b6_init 58 = .ok (.iconst 0, 1) := by decide +kernel
theorem d6_init_59 : decode b6_init 59 = .ok (.istore_n 3, 1) := by decide +kernel
theorem d6_init_60 : decode b6_init 60 = .ok (.iload_n 3, 1) := by decide +kernel
theorem d6_init_61 : decode b6_init 61 = .ok (.bipush 6, 2) := by decide +kernel
theorem d6_init_63 : decode b6_init 63 = .ok (.if_icmp .ge 25, 3) := by decide +kernel
theorem d6_init_66 : decode b6_init 66 = .ok (.aload_n 0, 1) := by decide +kernel
theorem d6_init_67 : decode b6_init 67 = .ok (.getfield 11, 3) := by decide +kernel
theorem d6_init_70 : decode b6_init 70 = .ok (.iload_n 3, 1) := by decide +kernel
theorem d6_init_71 : decode b6_init 71 = .ok (.new 9, 3) := by decide +kernel
theorem d6_init_74 : decode b6_init 74 = .ok (.dup, 1) := by decide +kernel
theorem d6_init_75 : decode b6_init 75 = .ok (.aload_n 1, 1) := by decide +kernel
theorem d6_init_76 : decode b6_init 76 = .ok (.iconst 0, 1) := by decide +kernel
theorem d6_init_77 : decode b6_init 77 = .ok (.aaload, 1) := by decide +kernel
theorem d6_init_78 : decode b6_init 78 = .ok (.invokespecial 44, 3) := by decide +kernel
theorem d6_init_81 : decode b6_init 81 = .ok (.aastore, 1) := by decide +kernel
theorem d6_init_82 : decode b6_init 82 = .ok (.iinc 3 1, 3) := by decide +kernel
theorem d6_init_85 : decode b6_init 85 = .ok (.goto (-25), 3) := by decide +kernel
theorem d6_init_88 : decode b6_init 88 = .ok (.return_, 1) := by decide +kernel
theorem d6_depth_0 : decode b6_depth 0 = .ok (.aload_n 0, 1) := by decide +kernel
theorem d6_depth_1 : decode b6_depth 1 = .ok (.getfield 47, 3) := by decide +kernel
theorem d6_depth_4 : decode b6_depth 4 = .ok (.ireturn, 1) := by decide +kernel
theorem d6_outcomeKind_0 : decode b6_outcomeKind 0 = .ok (.aload_n 0, 1) := by decide +kernel
theorem d6_outcomeKind_1 : decode b6_outcomeKind 1 = .ok (.getfield 51, 3) := by decide +kernel
theorem d6_outcomeKind_4 : decode b6_outcomeKind 4 = .ok (.ireturn, 1) := by decide +kernel
theorem d6_outcomeNumber_0 : decode b6_outcomeNumber 0 = .ok (.aload_n 0, 1) := by decide +kernel
theorem d6_outcomeNumber_1 : decode b6_outcomeNumber 1 = .ok (.getfield 33, 3) := by decide +kernel
theorem d6_outcomeNumber_4 : decode b6_outcomeNumber 4 = .ok (.iconst 0, 1) := by decide +kernel
theorem d6_outcomeNumber_5 : decode b6_outcomeNumber 5 = .ok (.invokevirtual 54, 3) := by decide +kernel
theorem d6_outcomeNumber_8 : decode b6_outcomeNumber 8 = .ok (.lreturn, 1) := by decide +kernel
theorem d6_outcomeReal_0 : decode b6_outcomeReal 0 = .ok (.aload_n 0, 1) := by decide +kernel
theorem d6_outcomeReal_1 : decode b6_outcomeReal 1 = .ok (.getfield 33, 3) := by decide +kernel
theorem d6_outcomeReal_4 : decode b6_outcomeReal 4 = .ok (.iconst 0, 1) := by decide +kernel
theorem d6_outcomeReal_5 : decode b6_outcomeReal 5 = .ok (.invokevirtual 58, 3) := by decide +kernel
theorem d6_outcomeReal_8 : decode b6_outcomeReal 8 = .ok (.dreturn, 1) := by decide +kernel
theorem d6_begin_0 : decode b6_begin 0 = .ok (.aload_n 0, 1) := by decide +kernel
theorem d6_begin_1 : decode b6_begin 1 = .ok (.iconst 1, 1) := by decide +kernel
theorem d6_begin_2 : decode b6_begin 2 = .ok (.putfield 47, 3) := by decide +kernel
theorem d6_begin_5 : decode b6_begin 5 = .ok (.aload_n 0, 1) := by decide +kernel
theorem d6_begin_6 : decode b6_begin 6 = .ok (.getfield 11, 3) := by decide +kernel
theorem d6_begin_9 : decode b6_begin 9 = .ok (.iconst 0, 1) := by decide +kernel
theorem d6_begin_10 : decode b6_begin 10 = .ok (.aaload, 1) := by decide +kernel
theorem d6_begin_11 : decode b6_begin 11 = .ok (.aload_n 1, 1) := by decide +kernel
theorem d6_begin_12 : decode b6_begin 12 = .ok (.invokevirtual 62, 3) := by decide +kernel
theorem d6_begin_15 : decode b6_begin 15 = .ok (.iconst 0, 1) := by decide +kernel
theorem d6_begin_16 : decode b6_begin 16 = .ok (.istore_n 3, 1) := by decide +kernel
theorem d6_begin_17 : decode b6_begin 17 = .ok (.iload_n 3, 1) := by decide +kernel
theorem d6_begin_18 : decode b6_begin 18 = .ok (.aload_n 1, 1) := by decide +kernel
theorem d6_begin_19 : decode b6_begin 19 = .ok (.invokevirtual 65, 3) := by decide +kernel
theorem d6_begin_22 : decode b6_begin 22 = .ok (.if_icmp .ge 28, 3) := by decide +kernel
theorem d6_begin_25 : decode b6_begin 25 = .ok (.iload_n 3, 1) := by decide +kernel
theorem d6_begin_26 : decode b6_begin 26 = .ok (.aload_n 2, 1) := by decide +kernel
theorem d6_begin_27 : decode b6_begin 27 = .ok (.arraylength, 1) := by decide +kernel
theorem d6_begin_28 : decode b6_begin 28 = .ok (.if_icmp .ge 22, 3) := by decide +kernel
theorem d6_begin_31 : decode b6_begin 31 = .ok (.aload_n 0, 1) := by decide +kernel
theorem d6_begin_32 : decode b6_begin 32 = .ok (.getfield 11, 3) := by decide +kernel
theorem d6_begin_35 : decode b6_begin 35 = .ok (.iconst 0, 1) := by decide +kernel
theorem d6_begin_36 : decode b6_begin 36 = .ok (.aaload, 1) := by decide +kernel
theorem d6_begin_37 : decode b6_begin 37 = .ok (.iload_n 3, 1) := by decide +kernel
theorem d6_begin_38 : decode b6_begin 38 = .ok (.aload_n 2, 1) := by decide +kernel
theorem d6_begin_39 : decode b6_begin 39 = .ok (.iload_n 3, 1) := by decide +kernel
theorem d6_begin_40 : decode b6_begin 40 = .ok (.iaload, 1) := by decide +kernel
theorem d6_begin_41 : decode b6_begin 41 = .ok (.invokevirtual 71, 3) := by decide +kernel
theorem d6_begin_44 : decode b6_begin 44 = .ok (.iinc 3 1, 3) := by decide +kernel
theorem d6_begin_47 : decode b6_begin 47 = .ok (.goto (-30), 3) := by decide +kernel
theorem d6_begin_50 : decode b6_begin 50 = .ok (.return_, 1) := by decide +kernel
theorem d6_step_0 : decode b6_step 0 = .ok (.aload_n 0, 1) := by decide +kernel
theorem d6_step_1 : decode b6_step 1 = .ok (.getfield 47, 3) := by decide +kernel
theorem d6_step_4 : decode b6_step 4 = .ok (.iconst 1, 1) := by decide +kernel
theorem d6_step_5 : decode b6_step 5 = .ok (.if_icmp .lt 12, 3) := by decide +kernel
theorem d6_step_8 : decode b6_step 8 = .ok (.aload_n 0, 1) := by decide +kernel
theorem d6_step_9 : decode b6_step 9 = .ok (.getfield 47, 3) := by decide +kernel
theorem d6_step_12 : decode b6_step 12 = .ok (.bipush 6, 2) := by decide +kernel
theorem d6_step_14 : decode b6_step 14 = .ok (.if_icmp .le 5, 3) := by decide +kernel
theorem d6_step_17 : decode b6_step 17 = .ok (.iconst 0, 1) := by decide +kernel
theorem d6_step_18 : decode b6_step 18 = .ok (.ireturn, 1) := by decide +kernel
theorem d6_step_19 : decode b6_step 19 = .ok (.aload_n 0, 1) := by decide +kernel
theorem d6_step_20 : decode b6_step 20 = .ok (.getfield 11, 3) := by decide +kernel
theorem d6_step_23 : decode b6_step 23 = .ok (.aload_n 0, 1) := by decide +kernel
theorem d6_step_24 : decode b6_step 24 = .ok (.getfield 47, 3) := by decide +kernel
theorem d6_step_27 : decode b6_step 27 = .ok (.iconst 1, 1) := by decide +kernel
theorem d6_step_28 : decode b6_step 28 = .ok (.isub, 1) := by decide +kernel
theorem d6_step_29 : decode b6_step 29 = .ok (.aaload, 1) := by decide +kernel
theorem d6_step_30 : decode b6_step 30 = .ok (.astore_n 1, 1) := by decide +kernel
theorem d6_step_31 : decode b6_step 31 = .ok (.aload_n 1, 1) := by decide +kernel
theorem d6_step_32 : decode b6_step 32 = .ok (.getfield 75, 3) := by decide +kernel
theorem d6_step_35 : decode b6_step 35 = .ok (.istore_n 2, 1) := by decide +kernel
theorem d6_step_36 : decode b6_step 36 = .ok (.aload_n 1, 1) := by decide +kernel
theorem d6_step_37 : decode b6_step 37 = .ok (.getfield 78, 3) := by decide +kernel
theorem d6_step_40 : decode b6_step 40 = .ok (.iload_n 2, 1) := by decide +kernel
theorem d6_step_41 : decode b6_step 41 = .ok (.invokevirtual 82, 3) := by decide +kernel
theorem d6_step_44 : decode b6_step 44 = .ok (.istore_n 3, 1) := by decide +kernel
theorem d6_step_45 : decode b6_step 45 = .ok (.aload_n 1, 1) := by decide +kernel
theorem d6_step_46 : decode b6_step 46 = .ok (.getfield 78, 3) := by decide +kernel
theorem d6_step_49 : decode b6_step 49 = .ok (.iload_n 2, 1) := by decide +kernel
theorem d6_step_50 : decode b6_step 50 = .ok (.iconst 1, 1) := by decide +kernel
theorem d6_step_51 : decode b6_step 51 = .ok (.iadd, 1) := by decide +kernel
theorem d6_step_52 : decode b6_step 52 = .ok (.invokevirtual 82, 3) := by decide +kernel
theorem d6_step_55 : decode b6_step 55 = .ok (.istore 4, 2) := by decide +kernel
theorem d6_step_57 : decode b6_step 57 = .ok (.aload_n 1, 1) := by decide +kernel
theorem d6_step_58 : decode b6_step 58 = .ok (.iload_n 2, 1) := by decide +kernel
theorem d6_step_59 : decode b6_step 59 = .ok (.aload_n 1, 1) := by decide +kernel
theorem d6_step_60 : decode b6_step 60 = .ok (.getfield 78, 3) := by decide +kernel
theorem d6_step_63 : decode b6_step 63 = .ok (.iload_n 2, 1) := by decide +kernel
theorem d6_step_64 : decode b6_step 64 = .ok (.invokevirtual 86, 3) := by decide +kernel
theorem d6_step_67 : decode b6_step 67 = .ok (.iadd, 1) := by decide +kernel
theorem d6_step_68 : decode b6_step 68 = .ok (.putfield 75, 3) := by decide +kernel
theorem d6_step_71 : decode b6_step 71 = .ok (.iload_n 3, 1) := by decide +kernel
theorem d6_step_72 : decode b6_step 72 = .ok (.bipush 6, 2) := by decide +kernel
theorem d6_step_74 : decode b6_step 74 = .ok (.if_icmp .gt 11, 3) := by decide +kernel
theorem d6_step_77 : decode b6_step 77 = .ok (.aload_n 0, 1) := by decide +kernel
theorem d6_step_78 : decode b6_step 78 = .ok (.aload_n 1, 1) := by decide +kernel
theorem d6_step_79 : decode b6_step 79 = .ok (.iload_n 2, 1) := by decide +kernel
theorem d6_step_80 : decode b6_step 80 = .ok (.iload_n 3, 1) := by decide +kernel
theorem d6_step_81 : decode b6_step 81 = .ok (.invokevirtual 91, 3) := by decide +kernel
theorem d6_step_84 : decode b6_step 84 = .ok (.ireturn, 1) := by decide +kernel
theorem d6_step_85 : decode b6_step 85 = .ok (.iload_n 3, 1) := by decide +kernel
theorem d6_step_86 : decode b6_step 86 = .ok (.bipush 10, 2) := by decide +kernel
theorem d6_step_88 : decode b6_step 88 = .ok (.if_icmp .gt 13, 3) := by decide +kernel
theorem d6_step_91 : decode b6_step 91 = .ok (.aload_n 0, 1) := by decide +kernel
theorem d6_step_92 : decode b6_step 92 = .ok (.aload_n 1, 1) := by decide +kernel
theorem d6_step_93 : decode b6_step 93 = .ok (.iload_n 2, 1) := by decide +kernel
theorem d6_step_94 : decode b6_step 94 = .ok (.iload_n 3, 1) := by decide +kernel
theorem d6_step_95 : decode b6_step 95 = .ok (.iload 4, 2) := by decide +kernel
theorem d6_step_97 : decode b6_step 97 = .ok (.invokevirtual 95, 3) := by decide +kernel
theorem d6_step_100 : decode b6_step 100 = .ok (.ireturn, 1) := by decide +kernel
theorem d6_step_101 : decode b6_step 101 = .ok (.iload_n 3, 1) := by decide +kernel
theorem d6_step_102 : decode b6_step 102 = .ok (.bipush 12, 2) := by decide +kernel
theorem d6_step_104 : decode b6_step 104 = .ok (.if_icmp .gt 12, 3) := by decide +kernel
theorem d6_step_107 : decode b6_step 107 = .ok (.aload_n 0, 1) := by decide +kernel
theorem d6_step_108 : decode b6_step 108 = .ok (.aload_n 1, 1) := by decide +kernel
theorem d6_step_109 : decode b6_step 109 = .ok (.iload_n 3, 1) := by decide +kernel
theorem d6_step_110 : decode b6_step 110 = .ok (.iload 4, 2) := by decide +kernel
theorem d6_step_112 : decode b6_step 112 = .ok (.invokevirtual 99, 3) := by decide +kernel
theorem d6_step_115 : decode b6_step 115 = .ok (.ireturn, 1) := by decide +kernel
theorem d6_step_116 : decode b6_step 116 = .ok (.iload_n 3, 1) := by decide +kernel
theorem d6_step_117 : decode b6_step 117 = .ok (.bipush 22, 2) := by decide +kernel
theorem d6_step_119 : decode b6_step 119 = .ok (.if_icmp .gt 12, 3) := by decide +kernel
theorem d6_step_122 : decode b6_step 122 = .ok (.aload_n 0, 1) := by decide +kernel
theorem d6_step_123 : decode b6_step 123 = .ok (.aload_n 1, 1) := by decide +kernel
theorem d6_step_124 : decode b6_step 124 = .ok (.iload_n 3, 1) := by decide +kernel
theorem d6_step_125 : decode b6_step 125 = .ok (.iload 4, 2) := by decide +kernel
theorem d6_step_127 : decode b6_step 127 = .ok (.invokevirtual 102, 3) := by decide +kernel
theorem d6_step_130 : decode b6_step 130 = .ok (.ireturn, 1) := by decide +kernel
theorem d6_step_131 : decode b6_step 131 = .ok (.aload_n 0, 1) := by decide +kernel
theorem d6_step_132 : decode b6_step 132 = .ok (.aload_n 1, 1) := by decide +kernel
theorem d6_step_133 : decode b6_step 133 = .ok (.getfield 105, 3) := by decide +kernel
theorem d6_step_136 : decode b6_step 136 = .ok (.iload_n 3, 1) := by decide +kernel
theorem d6_step_137 : decode b6_step 137 = .ok (.iload 4, 2) := by decide +kernel
theorem d6_step_139 : decode b6_step 139 = .ok (.invokevirtual 108, 3) := by decide +kernel
theorem d6_step_142 : decode b6_step 142 = .ok (.ireturn, 1) := by decide +kernel
theorem d6_stepFrames_0 : decode b6_stepFrames 0 = .ok (.iload_n 3, 1) := by decide +kernel
theorem d6_stepFrames_1 : decode b6_stepFrames 1 = .ok (.tableswitch 87 0 6 #[43, 87, 45, 45, 53, 61, 68], 43) := by decide +kernel
theorem d6_stepFrames_44 : decode b6_stepFrames 44 = .ok (.iconst 1, 1) := by decide +kernel
theorem d6_stepFrames_45 : decode b6_stepFrames 45 = .ok (.ireturn, 1) := by decide +kernel
theorem d6_stepFrames_46 : decode b6_stepFrames 46 = .ok (.aload_n 1, 1) := by decide +kernel
theorem d6_stepFrames_47 : decode b6_stepFrames 47 = .ok (.iload_n 2, 1) := by decide +kernel
theorem d6_stepFrames_48 : decode b6_stepFrames 48 = .ok (.invokevirtual 112, 3) := by decide +kernel
theorem d6_stepFrames_51 : decode b6_stepFrames 51 = .ok (.goto 37, 3) := by decide +kernel
theorem d6_stepFrames_54 : decode b6_stepFrames 54 = .ok (.aload_n 1, 1) := by decide +kernel
theorem d6_stepFrames_55 : decode b6_stepFrames 55 = .ok (.iload_n 2, 1) := by decide +kernel
theorem d6_stepFrames_56 : decode b6_stepFrames 56 = .ok (.invokevirtual 115, 3) := by decide +kernel
theorem d6_stepFrames_59 : decode b6_stepFrames 59 = .ok (.goto 29, 3) := by decide +kernel
theorem d6_stepFrames_62 : decode b6_stepFrames 62 = .ok (.aload_n 1, 1) := by decide +kernel
theorem d6_stepFrames_63 : decode b6_stepFrames 63 = .ok (.invokevirtual 118, 3) := by decide +kernel
theorem d6_stepFrames_66 : decode b6_stepFrames 66 = .ok (.goto 22, 3) := by decide +kernel
theorem d6_stepFrames_69 : decode b6_stepFrames 69 = .ok (.aload_n 1, 1) := by decide +kernel
theorem d6_stepFrames_70 : decode b6_stepFrames 70 = .ok (.invokevirtual 121, 3) := by decide +kernel
theorem d6_stepFrames_73 : decode b6_stepFrames 73 = .ok (.aload_n 1, 1) := by decide +kernel
theorem d6_stepFrames_74 : decode b6_stepFrames 74 = .ok (.getfield 124, 3) := by decide +kernel
theorem d6_stepFrames_77 : decode b6_stepFrames 77 = .ok (.ifCond .gt 11, 3) := by decide +kernel
theorem d6_stepFrames_80 : decode b6_stepFrames 80 = .ok (.aload_n 0, 1) := by decide +kernel
theorem d6_stepFrames_81 : decode b6_stepFrames 81 = .ok (.aload_n 1, 1) := by decide +kernel
theorem d6_stepFrames_82 : decode b6_stepFrames 82 = .ok (.invokevirtual 127, 3) := by decide +kernel
theorem d6_stepFrames_85 : decode b6_stepFrames 85 = .ok (.goto 3, 3) := by decide +kernel
theorem d6_stepFrames_88 : decode b6_stepFrames 88 = .ok (.iconst 0, 1) := by decide +kernel
theorem d6_stepFrames_89 : decode b6_stepFrames 89 = .ok (.ireturn, 1) := by decide +kernel
theorem d6_stepJumps_0 : decode b6_stepJumps 0 = .ok (.iload_n 3, 1) := by decide +kernel
theorem d6_stepJumps_1 : decode b6_stepJumps 1 = .ok (.tableswitch 73 7 9 #[27, 37, 57], 27) := by decide +kernel
theorem d6_stepJumps_28 : decode b6_stepJumps 28 = .ok (.aload_n 0, 1) := by decide +kernel
theorem d6_stepJumps_29 : decode b6_stepJumps 29 = .ok (.aload_n 1, 1) := by decide +kernel
theorem d6_stepJumps_30 : decode b6_stepJumps 30 = .ok (.iload 4, 2) := by decide +kernel
theorem d6_stepJumps_32 : decode b6_stepJumps 32 = .ok (.invokevirtual 131, 3) := by decide +kernel
theorem d6_stepJumps_35 : decode b6_stepJumps 35 = .ok (.goto 44, 3) := by decide +kernel
theorem d6_stepJumps_38 : decode b6_stepJumps 38 = .ok (.aload_n 1, 1) := by decide +kernel
theorem d6_stepJumps_39 : decode b6_stepJumps 39 = .ok (.getfield 105, 3) := by decide +kernel
theorem d6_stepJumps_42 : decode b6_stepJumps 42 = .ok (.invokevirtual 135, 3) := by decide +kernel
theorem d6_stepJumps_45 : decode b6_stepJumps 45 = .ok (.ifCond .eq 34, 3) := by decide +kernel
theorem d6_stepJumps_48 : decode b6_stepJumps 48 = .ok (.aload_n 0, 1) := by decide +kernel
theorem d6_stepJumps_49 : decode b6_stepJumps 49 = .ok (.aload_n 1, 1) := by decide +kernel
theorem d6_stepJumps_50 : decode b6_stepJumps 50 = .ok (.iload 4, 2) := by decide +kernel
theorem d6_stepJumps_52 : decode b6_stepJumps 52 = .ok (.invokevirtual 131, 3) := by decide +kernel
theorem d6_stepJumps_55 : decode b6_stepJumps 55 = .ok (.goto 24, 3) := by decide +kernel
theorem d6_stepJumps_58 : decode b6_stepJumps 58 = .ok (.aload_n 0, 1) := by decide +kernel
theorem d6_stepJumps_59 : decode b6_stepJumps 59 = .ok (.aload_n 1, 1) := by decide +kernel
theorem d6_stepJumps_60 : decode b6_stepJumps 60 = .ok (.aload_n 0, 1) := by decide +kernel
theorem d6_stepJumps_61 : decode b6_stepJumps 61 = .ok (.aload_n 1, 1) := by decide +kernel
theorem d6_stepJumps_62 : decode b6_stepJumps 62 = .ok (.iload_n 2, 1) := by decide +kernel
theorem d6_stepJumps_63 : decode b6_stepJumps 63 = .ok (.iload 4, 2) := by decide +kernel
theorem d6_stepJumps_65 : decode b6_stepJumps 65 = .ok (.invokevirtual 138, 3) := by decide +kernel
theorem d6_stepJumps_68 : decode b6_stepJumps 68 = .ok (.invokevirtual 131, 3) := by decide +kernel
theorem d6_stepJumps_71 : decode b6_stepJumps 71 = .ok (.goto 8, 3) := by decide +kernel
theorem d6_stepJumps_74 : decode b6_stepJumps 74 = .ok (.aload_n 0, 1) := by decide +kernel
theorem d6_stepJumps_75 : decode b6_stepJumps 75 = .ok (.aload_n 1, 1) := by decide +kernel
theorem d6_stepJumps_76 : decode b6_stepJumps 76 = .ok (.invokevirtual 127, 3) := by decide +kernel
theorem d6_stepJumps_79 : decode b6_stepJumps 79 = .ok (.iconst 0, 1) := by decide +kernel
theorem d6_stepJumps_80 : decode b6_stepJumps 80 = .ok (.ireturn, 1) := by decide +kernel
theorem d6_jump_0 : decode b6_jump 0 = .ok (.aload_n 1, 1) := by decide +kernel
theorem d6_jump_1 : decode b6_jump 1 = .ok (.iload_n 2, 1) := by decide +kernel
theorem d6_jump_2 : decode b6_jump 2 = .ok (.invokevirtual 141, 3) := by decide +kernel
theorem d6_jump_5 : decode b6_jump 5 = .ok (.ifCond .ne 8, 3) := by decide +kernel
theorem d6_jump_8 : decode b6_jump 8 = .ok (.aload_n 0, 1) := by decide +kernel
theorem d6_jump_9 : decode b6_jump 9 = .ok (.aload_n 1, 1) := by decide +kernel
theorem d6_jump_10 : decode b6_jump 10 = .ok (.invokevirtual 127, 3) := by decide +kernel
theorem d6_jump_13 : decode b6_jump 13 = .ok (.return_, 1) := by decide +kernel
theorem d6_chosenJump_0 : decode b6_chosenJump 0 = .ok (.aload_n 1, 1) := by decide +kernel
theorem d6_chosenJump_1 : decode b6_chosenJump 1 = .ok (.getfield 105, 3) := by decide +kernel
theorem d6_chosenJump_4 : decode b6_chosenJump 4 = .ok (.invokevirtual 135, 3) := by decide +kernel
theorem d6_chosenJump_7 : decode b6_chosenJump 7 = .ok (.istore 4, 2) := by decide +kernel
theorem d6_chosenJump_9 : decode b6_chosenJump 9 = .ok (.iload 4, 2) := by decide +kernel
theorem d6_chosenJump_11 : decode b6_chosenJump 11 = .ok (.ifCond .lt 14, 3) := by decide +kernel
theorem d6_chosenJump_14 : decode b6_chosenJump 14 = .ok (.iload 4, 2) := by decide +kernel
theorem d6_chosenJump_16 : decode b6_chosenJump 16 = .ok (.iload_n 3, 1) := by decide +kernel
theorem d6_chosenJump_17 : decode b6_chosenJump 17 = .ok (.if_icmp .ge 8, 3) := by decide +kernel
theorem d6_chosenJump_20 : decode b6_chosenJump 20 = .ok (.iload 4, 2) := by decide +kernel
theorem d6_chosenJump_22 : decode b6_chosenJump 22 = .ok (.goto 4, 3) := by decide +kernel
theorem d6_chosenJump_25 : decode b6_chosenJump 25 = .ok (.iload_n 3, 1) := by decide +kernel
theorem d6_chosenJump_26 : decode b6_chosenJump 26 = .ok (.istore 5, 2) := by decide +kernel
theorem d6_chosenJump_28 : decode b6_chosenJump 28 = .ok (.aload_n 1, 1) := by decide +kernel
theorem d6_chosenJump_29 : decode b6_chosenJump 29 = .ok (.getfield 78, 3) := by decide +kernel
theorem d6_chosenJump_32 : decode b6_chosenJump 32 = .ok (.iload_n 2, 1) := by decide +kernel
theorem d6_chosenJump_33 : decode b6_chosenJump 33 = .ok (.iconst 2, 1) := by decide +kernel
theorem d6_chosenJump_34 : decode b6_chosenJump 34 = .ok (.iadd, 1) := by decide +kernel
theorem d6_chosenJump_35 : decode b6_chosenJump 35 = .ok (.iload 5, 2) := by decide +kernel
theorem d6_chosenJump_37 : decode b6_chosenJump 37 = .ok (.iadd, 1) := by decide +kernel
theorem d6_chosenJump_38 : decode b6_chosenJump 38 = .ok (.invokevirtual 82, 3) := by decide +kernel
theorem d6_chosenJump_41 : decode b6_chosenJump 41 = .ok (.ireturn, 1) := by decide +kernel
theorem d6_leave_0 : decode b6_leave 0 = .ok (.aload_n 1, 1) := by decide +kernel
theorem d6_leave_1 : decode b6_leave 1 = .ok (.getfield 78, 3) := by decide +kernel
theorem d6_leave_4 : decode b6_leave 4 = .ok (.invokevirtual 145, 3) := by decide +kernel
theorem d6_leave_7 : decode b6_leave 7 = .ok (.istore_n 2, 1) := by decide +kernel
theorem d6_leave_8 : decode b6_leave 8 = .ok (.aload_n 1, 1) := by decide +kernel
theorem d6_leave_9 : decode b6_leave 9 = .ok (.getfield 105, 3) := by decide +kernel
theorem d6_leave_12 : decode b6_leave 12 = .ok (.invokevirtual 147, 3) := by decide +kernel
theorem d6_leave_15 : decode b6_leave 15 = .ok (.iconst 1, 1) := by decide +kernel
theorem d6_leave_16 : decode b6_leave 16 = .ok (.isub, 1) := by decide +kernel
theorem d6_leave_17 : decode b6_leave 17 = .ok (.istore_n 3, 1) := by decide +kernel
theorem d6_leave_18 : decode b6_leave 18 = .ok (.aload_n 0, 1) := by decide +kernel
theorem d6_leave_19 : decode b6_leave 19 = .ok (.dup, 1) := by decide +kernel
theorem d6_leave_20 : decode b6_leave 20 = .ok (.getfield 47, 3) := by decide +kernel
theorem d6_leave_23 : decode b6_leave 23 = .ok (.iconst 1, 1) := by decide +kernel
theorem d6_leave_24 : decode b6_leave 24 = .ok (.isub, 1) := by decide +kernel
theorem d6_leave_25 : decode b6_leave 25 = .ok (.putfield 47, 3) := by decide +kernel
theorem d6_leave_28 : decode b6_leave 28 = .ok (.aload_n 0, 1) := by decide +kernel
theorem d6_leave_29 : decode b6_leave 29 = .ok (.getfield 47, 3) := by decide +kernel
theorem d6_leave_32 : decode b6_leave 32 = .ok (.iconst 1, 1) := by decide +kernel
theorem d6_leave_33 : decode b6_leave 33 = .ok (.if_icmp .lt 12, 3) := by decide +kernel
theorem d6_leave_36 : decode b6_leave 36 = .ok (.aload_n 0, 1) := by decide +kernel
theorem d6_leave_37 : decode b6_leave 37 = .ok (.getfield 47, 3) := by decide +kernel
theorem d6_leave_40 : decode b6_leave 40 = .ok (.bipush 6, 2) := by decide +kernel
theorem d6_leave_42 : decode b6_leave 42 = .ok (.if_icmp .le 29, 3) := by decide +kernel
theorem d6_leave_45 : decode b6_leave 45 = .ok (.aload_n 0, 1) := by decide +kernel
theorem d6_leave_46 : decode b6_leave 46 = .ok (.iconst 0, 1) := by decide +kernel
theorem d6_leave_47 : decode b6_leave 47 = .ok (.putfield 47, 3) := by decide +kernel
theorem d6_leave_50 : decode b6_leave 50 = .ok (.aload_n 0, 1) := by decide +kernel
theorem d6_leave_51 : decode b6_leave 51 = .ok (.iload_n 2, 1) := by decide +kernel
theorem d6_leave_52 : decode b6_leave 52 = .ok (.putfield 51, 3) := by decide +kernel
theorem d6_leave_55 : decode b6_leave 55 = .ok (.aload_n 0, 1) := by decide +kernel
theorem d6_leave_56 : decode b6_leave 56 = .ok (.getfield 33, 3) := by decide +kernel
theorem d6_leave_59 : decode b6_leave 59 = .ok (.iconst 0, 1) := by decide +kernel
theorem d6_leave_60 : decode b6_leave 60 = .ok (.aload_n 1, 1) := by decide +kernel
theorem d6_leave_61 : decode b6_leave 61 = .ok (.getfield 105, 3) := by decide +kernel
theorem d6_leave_64 : decode b6_leave 64 = .ok (.iload_n 3, 1) := by decide +kernel
theorem d6_leave_65 : decode b6_leave 65 = .ok (.invokevirtual 150, 3) := by decide +kernel
theorem d6_leave_68 : decode b6_leave 68 = .ok (.goto 29, 3) := by decide +kernel
theorem d6_leave_71 : decode b6_leave 71 = .ok (.iload_n 2, 1) := by decide +kernel
theorem d6_leave_72 : decode b6_leave 72 = .ok (.ifCond .eq 25, 3) := by decide +kernel
theorem d6_leave_75 : decode b6_leave 75 = .ok (.aload_n 0, 1) := by decide +kernel
theorem d6_leave_76 : decode b6_leave 76 = .ok (.getfield 11, 3) := by decide +kernel
theorem d6_leave_79 : decode b6_leave 79 = .ok (.aload_n 0, 1) := by decide +kernel
theorem d6_leave_80 : decode b6_leave 80 = .ok (.getfield 47, 3) := by decide +kernel
theorem d6_leave_83 : decode b6_leave 83 = .ok (.iconst 1, 1) := by decide +kernel
theorem d6_leave_84 : decode b6_leave 84 = .ok (.isub, 1) := by decide +kernel
theorem d6_leave_85 : decode b6_leave 85 = .ok (.aaload, 1) := by decide +kernel
theorem d6_leave_86 : decode b6_leave 86 = .ok (.getfield 105, 3) := by decide +kernel
theorem d6_leave_89 : decode b6_leave 89 = .ok (.aload_n 1, 1) := by decide +kernel
theorem d6_leave_90 : decode b6_leave 90 = .ok (.getfield 105, 3) := by decide +kernel
theorem d6_leave_93 : decode b6_leave 93 = .ok (.iload_n 3, 1) := by decide +kernel
theorem d6_leave_94 : decode b6_leave 94 = .ok (.invokevirtual 154, 3) := by decide +kernel
theorem d6_leave_97 : decode b6_leave 97 = .ok (.return_, 1) := by decide +kernel
theorem d6_stepCalls_0 : decode b6_stepCalls 0 = .ok (.iload_n 3, 1) := by decide +kernel
theorem d6_stepCalls_1 : decode b6_stepCalls 1 = .ok (.invokestatic 158, 3) := by decide +kernel
theorem d6_stepCalls_4 : decode b6_stepCalls 4 = .ok (.ifCond .ne 5, 3) := by decide +kernel
theorem d6_stepCalls_7 : decode b6_stepCalls 7 = .ok (.iconst 4, 1) := by decide +kernel
theorem d6_stepCalls_8 : decode b6_stepCalls 8 = .ok (.ireturn, 1) := by decide +kernel
theorem d6_stepCalls_9 : decode b6_stepCalls 9 = .ok (.iload_n 2, 1) := by decide +kernel
theorem d6_stepCalls_10 : decode b6_stepCalls 10 = .ok (.bipush 11, 2) := by decide +kernel
theorem d6_stepCalls_12 : decode b6_stepCalls 12 = .ok (.if_icmp .ne 15, 3) := by decide +kernel
theorem d6_stepCalls_15 : decode b6_stepCalls 15 = .ok (.aload_n 0, 1) := by decide +kernel
theorem d6_stepCalls_16 : decode b6_stepCalls 16 = .ok (.aload_n 1, 1) := by decide +kernel
theorem d6_stepCalls_17 : decode b6_stepCalls 17 = .ok (.aload_n 0, 1) := by decide +kernel
theorem d6_stepCalls_18 : decode b6_stepCalls 18 = .ok (.getfield 36, 3) := by decide +kernel
theorem d6_stepCalls_21 : decode b6_stepCalls 21 = .ok (.iload_n 3, 1) := by decide +kernel
theorem d6_stepCalls_22 : decode b6_stepCalls 22 = .ok (.aaload, 1) := by decide +kernel
theorem d6_stepCalls_23 : decode b6_stepCalls 23 = .ok (.invokevirtual 161, 3) := by decide +kernel
theorem d6_stepCalls_26 : decode b6_stepCalls 26 = .ok (.ireturn, 1) := by decide +kernel
theorem d6_stepCalls_27 : decode b6_stepCalls 27 = .ok (.aload_n 1, 1) := by decide +kernel
theorem d6_stepCalls_28 : decode b6_stepCalls 28 = .ok (.getfield 105, 3) := by decide +kernel
theorem d6_stepCalls_31 : decode b6_stepCalls 31 = .ok (.invokevirtual 135, 3) := by decide +kernel
theorem d6_stepCalls_34 : decode b6_stepCalls 34 = .ok (.istore 4, 2) := by decide +kernel
theorem d6_stepCalls_36 : decode b6_stepCalls 36 = .ok (.iload 4, 2) := by decide +kernel
theorem d6_stepCalls_38 : decode b6_stepCalls 38 = .ok (.ifCond .lt 23, 3) := by decide +kernel
theorem d6_stepCalls_41 : decode b6_stepCalls 41 = .ok (.iload 4, 2) := by decide +kernel
theorem d6_stepCalls_43 : decode b6_stepCalls 43 = .ok (.bipush 8, 2) := by decide +kernel
theorem d6_stepCalls_45 : decode b6_stepCalls 45 = .ok (.if_icmp .ge 16, 3) := by decide +kernel
theorem d6_stepCalls_48 : decode b6_stepCalls 48 = .ok (.aload_n 0, 1) := by decide +kernel
theorem d6_stepCalls_49 : decode b6_stepCalls 49 = .ok (.getfield 40, 3) := by decide +kernel
theorem d6_stepCalls_52 : decode b6_stepCalls 52 = .ok (.iload 4, 2) := by decide +kernel
theorem d6_stepCalls_54 : decode b6_stepCalls 54 = .ok (.iaload, 1) := by decide +kernel
theorem d6_stepCalls_55 : decode b6_stepCalls 55 = .ok (.invokestatic 158, 3) := by decide +kernel
theorem d6_stepCalls_58 : decode b6_stepCalls 58 = .ok (.ifCond .ne 5, 3) := by decide +kernel
theorem d6_stepCalls_61 : decode b6_stepCalls 61 = .ok (.iconst 4, 1) := by decide +kernel
theorem d6_stepCalls_62 : decode b6_stepCalls 62 = .ok (.ireturn, 1) := by decide +kernel
theorem d6_stepCalls_63 : decode b6_stepCalls 63 = .ok (.aload_n 0, 1) := by decide +kernel
theorem d6_stepCalls_64 : decode b6_stepCalls 64 = .ok (.getfield 36, 3) := by decide +kernel
theorem d6_stepCalls_67 : decode b6_stepCalls 67 = .ok (.aload_n 0, 1) := by decide +kernel
theorem d6_stepCalls_68 : decode b6_stepCalls 68 = .ok (.getfield 40, 3) := by decide +kernel
theorem d6_stepCalls_71 : decode b6_stepCalls 71 = .ok (.iload 4, 2) := by decide +kernel
theorem d6_stepCalls_73 : decode b6_stepCalls 73 = .ok (.iaload, 1) := by decide +kernel
theorem d6_stepCalls_74 : decode b6_stepCalls 74 = .ok (.aaload, 1) := by decide +kernel
theorem d6_stepCalls_75 : decode b6_stepCalls 75 = .ok (.astore 5, 2) := by decide +kernel
theorem d6_stepCalls_77 : decode b6_stepCalls 77 = .ok (.aload 5, 2) := by decide +kernel
theorem d6_stepCalls_79 : decode b6_stepCalls 79 = .ok (.invokevirtual 165, 3) := by decide +kernel
theorem d6_stepCalls_82 : decode b6_stepCalls 82 = .ok (.ifCond .eq 17, 3) := by decide +kernel
theorem d6_stepCalls_85 : decode b6_stepCalls 85 = .ok (.aload 5, 2) := by decide +kernel
theorem d6_stepCalls_87 : decode b6_stepCalls 87 = .ok (.aload_n 0, 1) := by decide +kernel
theorem d6_stepCalls_88 : decode b6_stepCalls 88 = .ok (.getfield 36, 3) := by decide +kernel
theorem d6_stepCalls_91 : decode b6_stepCalls 91 = .ok (.iload_n 3, 1) := by decide +kernel
theorem d6_stepCalls_92 : decode b6_stepCalls 92 = .ok (.aaload, 1) := by decide +kernel
theorem d6_stepCalls_93 : decode b6_stepCalls 93 = .ok (.invokevirtual 168, 3) := by decide +kernel
theorem d6_stepCalls_96 : decode b6_stepCalls 96 = .ok (.ifCond .ne 5, 3) := by decide +kernel
theorem d6_stepCalls_99 : decode b6_stepCalls 99 = .ok (.iconst 4, 1) := by decide +kernel
theorem d6_stepCalls_100 : decode b6_stepCalls 100 = .ok (.ireturn, 1) := by decide +kernel
theorem d6_stepCalls_101 : decode b6_stepCalls 101 = .ok (.aload_n 0, 1) := by decide +kernel
theorem d6_stepCalls_102 : decode b6_stepCalls 102 = .ok (.aload_n 1, 1) := by decide +kernel
theorem d6_stepCalls_103 : decode b6_stepCalls 103 = .ok (.aload 5, 2) := by decide +kernel
theorem d6_stepCalls_105 : decode b6_stepCalls 105 = .ok (.invokevirtual 161, 3) := by decide +kernel
theorem d6_stepCalls_108 : decode b6_stepCalls 108 = .ok (.ireturn, 1) := by decide +kernel
theorem d6_enter_0 : decode b6_enter 0 = .ok (.aload_n 0, 1) := by decide +kernel
theorem d6_enter_1 : decode b6_enter 1 = .ok (.getfield 47, 3) := by decide +kernel
theorem d6_enter_4 : decode b6_enter 4 = .ok (.ifCond .lt 12, 3) := by decide +kernel
theorem d6_enter_7 : decode b6_enter 7 = .ok (.aload_n 0, 1) := by decide +kernel
theorem d6_enter_8 : decode b6_enter 8 = .ok (.getfield 47, 3) := by decide +kernel
theorem d6_enter_11 : decode b6_enter 11 = .ok (.bipush 6, 2) := by decide +kernel
theorem d6_enter_13 : decode b6_enter 13 = .ok (.if_icmp .lt 5, 3) := by decide +kernel
theorem d6_enter_16 : decode b6_enter 16 = .ok (.iconst 1, 1) := by decide +kernel
theorem d6_enter_17 : decode b6_enter 17 = .ok (.ireturn, 1) := by decide +kernel
theorem d6_enter_18 : decode b6_enter 18 = .ok (.aload_n 0, 1) := by decide +kernel
theorem d6_enter_19 : decode b6_enter 19 = .ok (.getfield 11, 3) := by decide +kernel
theorem d6_enter_22 : decode b6_enter 22 = .ok (.aload_n 0, 1) := by decide +kernel
theorem d6_enter_23 : decode b6_enter 23 = .ok (.getfield 47, 3) := by decide +kernel
theorem d6_enter_26 : decode b6_enter 26 = .ok (.aaload, 1) := by decide +kernel
theorem d6_enter_27 : decode b6_enter 27 = .ok (.aload_n 2, 1) := by decide +kernel
theorem d6_enter_28 : decode b6_enter 28 = .ok (.invokevirtual 62, 3) := by decide +kernel
theorem d6_enter_31 : decode b6_enter 31 = .ok (.aload_n 0, 1) := by decide +kernel
theorem d6_enter_32 : decode b6_enter 32 = .ok (.getfield 11, 3) := by decide +kernel
theorem d6_enter_35 : decode b6_enter 35 = .ok (.aload_n 0, 1) := by decide +kernel
theorem d6_enter_36 : decode b6_enter 36 = .ok (.getfield 47, 3) := by decide +kernel
theorem d6_enter_39 : decode b6_enter 39 = .ok (.aaload, 1) := by decide +kernel
theorem d6_enter_40 : decode b6_enter 40 = .ok (.aload_n 1, 1) := by decide +kernel
theorem d6_enter_41 : decode b6_enter 41 = .ok (.getfield 105, 3) := by decide +kernel
theorem d6_enter_44 : decode b6_enter 44 = .ok (.invokevirtual 172, 3) := by decide +kernel
theorem d6_enter_47 : decode b6_enter 47 = .ok (.aload_n 0, 1) := by decide +kernel
theorem d6_enter_48 : decode b6_enter 48 = .ok (.dup, 1) := by decide +kernel
theorem d6_enter_49 : decode b6_enter 49 = .ok (.getfield 47, 3) := by decide +kernel
theorem d6_enter_52 : decode b6_enter 52 = .ok (.iconst 1, 1) := by decide +kernel
theorem d6_enter_53 : decode b6_enter 53 = .ok (.iadd, 1) := by decide +kernel
theorem d6_enter_54 : decode b6_enter 54 = .ok (.putfield 47, 3) := by decide +kernel
theorem d6_enter_57 : decode b6_enter 57 = .ok (.iconst 0, 1) := by decide +kernel
theorem d6_enter_58 : decode b6_enter 58 = .ok (.ireturn, 1) := by decide +kernel
theorem d6_stepValues_0 : decode b6_stepValues 0 = .ok (.aload_n 1, 1) := by decide +kernel
theorem d6_stepValues_1 : decode b6_stepValues 1 = .ok (.getfield 105, 3) := by decide +kernel
theorem d6_stepValues_4 : decode b6_stepValues 4 = .ok (.astore 4, 2) := by decide +kernel
theorem d6_stepValues_6 : decode b6_stepValues 6 = .ok (.aload 4, 2) := by decide +kernel
theorem d6_stepValues_8 : decode b6_stepValues 8 = .ok (.invokevirtual 147, 3) := by decide +kernel
theorem d6_stepValues_11 : decode b6_stepValues 11 = .ok (.iconst 1, 1) := by decide +kernel
theorem d6_stepValues_12 : decode b6_stepValues 12 = .ok (.isub, 1) := by decide +kernel
theorem d6_stepValues_13 : decode b6_stepValues 13 = .ok (.istore 5, 2) := by decide +kernel
theorem d6_stepValues_15 : decode b6_stepValues 15 = .ok (.iload_n 2, 1) := by decide +kernel
theorem d6_stepValues_16 : decode b6_stepValues 16 = .ok (.tableswitch 169 13 22 #[56, 64, 73, 86, 106, 121, 134, 169, 169, 154], 56) := by decide +kernel
theorem d6_stepValues_72 : decode b6_stepValues 72 = .ok (.aload 4, 2) := by decide +kernel
theorem d6_stepValues_74 : decode b6_stepValues 74 = .ok (.invokevirtual 176, 3) := by decide +kernel
theorem d6_stepValues_77 : decode b6_stepValues 77 = .ok (.goto 116, 3) := by decide +kernel
theorem d6_stepValues_80 : decode b6_stepValues 80 = .ok (.aload_n 0, 1) := by decide +kernel
theorem d6_stepValues_81 : decode b6_stepValues 81 = .ok (.aload 4, 2) := by decide +kernel
theorem d6_stepValues_83 : decode b6_stepValues 83 = .ok (.invokevirtual 179, 3) := by decide +kernel
theorem d6_stepValues_86 : decode b6_stepValues 86 = .ok (.goto 107, 3) := by decide +kernel
theorem d6_stepValues_89 : decode b6_stepValues 89 = .ok (.aload 4, 2) := by decide +kernel
theorem d6_stepValues_91 : decode b6_stepValues 91 = .ok (.aload_n 1, 1) := by decide +kernel
theorem d6_stepValues_92 : decode b6_stepValues 92 = .ok (.getfield 182, 3) := by decide +kernel
theorem d6_stepValues_95 : decode b6_stepValues 95 = .ok (.iload_n 3, 1) := by decide +kernel
theorem d6_stepValues_96 : decode b6_stepValues 96 = .ok (.invokevirtual 154, 3) := by decide +kernel
theorem d6_stepValues_99 : decode b6_stepValues 99 = .ok (.goto 94, 3) := by decide +kernel
theorem d6_stepValues_102 : decode b6_stepValues 102 = .ok (.aload_n 1, 1) := by decide +kernel
theorem d6_stepValues_103 : decode b6_stepValues 103 = .ok (.getfield 182, 3) := by decide +kernel
theorem d6_stepValues_106 : decode b6_stepValues 106 = .ok (.iload_n 3, 1) := by decide +kernel
theorem d6_stepValues_107 : decode b6_stepValues 107 = .ok (.aload 4, 2) := by decide +kernel
theorem d6_stepValues_109 : decode b6_stepValues 109 = .ok (.iload 5, 2) := by decide +kernel
theorem d6_stepValues_111 : decode b6_stepValues 111 = .ok (.invokevirtual 150, 3) := by decide +kernel
theorem d6_stepValues_114 : decode b6_stepValues 114 = .ok (.aload 4, 2) := by decide +kernel
theorem d6_stepValues_116 : decode b6_stepValues 116 = .ok (.invokevirtual 176, 3) := by decide +kernel
theorem d6_stepValues_119 : decode b6_stepValues 119 = .ok (.goto 74, 3) := by decide +kernel
theorem d6_stepValues_122 : decode b6_stepValues 122 = .ok (.aload_n 1, 1) := by decide +kernel
theorem d6_stepValues_123 : decode b6_stepValues 123 = .ok (.getfield 182, 3) := by decide +kernel
theorem d6_stepValues_126 : decode b6_stepValues 126 = .ok (.iload_n 3, 1) := by decide +kernel
theorem d6_stepValues_127 : decode b6_stepValues 127 = .ok (.aload 4, 2) := by decide +kernel
theorem d6_stepValues_129 : decode b6_stepValues 129 = .ok (.iload 5, 2) := by decide +kernel
theorem d6_stepValues_131 : decode b6_stepValues 131 = .ok (.invokevirtual 150, 3) := by decide +kernel
theorem d6_stepValues_134 : decode b6_stepValues 134 = .ok (.goto 59, 3) := by decide +kernel
theorem d6_stepValues_137 : decode b6_stepValues 137 = .ok (.aload 4, 2) := by decide +kernel
theorem d6_stepValues_139 : decode b6_stepValues 139 = .ok (.aload_n 0, 1) := by decide +kernel
theorem d6_stepValues_140 : decode b6_stepValues 140 = .ok (.getfield 29, 3) := by decide +kernel
theorem d6_stepValues_143 : decode b6_stepValues 143 = .ok (.iload_n 3, 1) := by decide +kernel
theorem d6_stepValues_144 : decode b6_stepValues 144 = .ok (.invokevirtual 154, 3) := by decide +kernel
theorem d6_stepValues_147 : decode b6_stepValues 147 = .ok (.goto 46, 3) := by decide +kernel
theorem d6_stepValues_150 : decode b6_stepValues 150 = .ok (.aload_n 0, 1) := by decide +kernel
theorem d6_stepValues_151 : decode b6_stepValues 151 = .ok (.getfield 29, 3) := by decide +kernel
theorem d6_stepValues_154 : decode b6_stepValues 154 = .ok (.iload_n 3, 1) := by decide +kernel
theorem d6_stepValues_155 : decode b6_stepValues 155 = .ok (.aload 4, 2) := by decide +kernel
theorem d6_stepValues_157 : decode b6_stepValues 157 = .ok (.iload 5, 2) := by decide +kernel
theorem d6_stepValues_159 : decode b6_stepValues 159 = .ok (.invokevirtual 150, 3) := by decide +kernel
theorem d6_stepValues_162 : decode b6_stepValues 162 = .ok (.aload 4, 2) := by decide +kernel
theorem d6_stepValues_164 : decode b6_stepValues 164 = .ok (.invokevirtual 176, 3) := by decide +kernel
theorem d6_stepValues_167 : decode b6_stepValues 167 = .ok (.goto 26, 3) := by decide +kernel
theorem d6_stepValues_170 : decode b6_stepValues 170 = .ok (.aload 4, 2) := by decide +kernel
theorem d6_stepValues_172 : decode b6_stepValues 172 = .ok (.iload_n 3, 1) := by decide +kernel
theorem d6_stepValues_173 : decode b6_stepValues 173 = .ok (.i2b, 1) := by decide +kernel
theorem d6_stepValues_174 : decode b6_stepValues 174 = .ok (.i2d, 1) := by decide +kernel
theorem d6_stepValues_175 : decode b6_stepValues 175 = .ok (.ldc2_w 185, 3) := by decide +kernel
theorem d6_stepValues_178 : decode b6_stepValues 178 = .ok (.dmul, 1) := by decide +kernel
theorem d6_stepValues_179 : decode b6_stepValues 179 = .ok (.invokevirtual 187, 3) := by decide +kernel
theorem d6_stepValues_182 : decode b6_stepValues 182 = .ok (.goto 11, 3) := by decide +kernel
theorem d6_stepValues_185 : decode b6_stepValues 185 = .ok (.aload 4, 2) := by decide +kernel
theorem d6_stepValues_187 : decode b6_stepValues 187 = .ok (.iload_n 3, 1) := by decide +kernel
theorem d6_stepValues_188 : decode b6_stepValues 188 = .ok (.i2b, 1) := by decide +kernel
theorem d6_stepValues_189 : decode b6_stepValues 189 = .ok (.i2l, 1) := by decide +kernel
theorem d6_stepValues_190 : decode b6_stepValues 190 = .ok (.invokevirtual 191, 3) := by decide +kernel
theorem d6_stepValues_193 : decode b6_stepValues 193 = .ok (.iconst 0, 1) := by decide +kernel
theorem d6_stepValues_194 : decode b6_stepValues 194 = .ok (.ireturn, 1) := by decide +kernel
theorem d6_select_0 : decode b6_select 0 = .ok (.aload_n 1, 1) := by decide +kernel
theorem d6_select_1 : decode b6_select 1 = .ok (.invokevirtual 135, 3) := by decide +kernel
theorem d6_select_4 : decode b6_select 4 = .ok (.ifCond .eq 7, 3) := by decide +kernel
theorem d6_select_7 : decode b6_select 7 = .ok (.iconst 1, 1) := by decide +kernel
theorem d6_select_8 : decode b6_select 8 = .ok (.goto 4, 3) := by decide +kernel
theorem d6_select_11 : decode b6_select 11 = .ok (.iconst 0, 1) := by decide +kernel
theorem d6_select_12 : decode b6_select 12 = .ok (.istore_n 2, 1) := by decide +kernel
theorem d6_select_13 : decode b6_select 13 = .ok (.aload_n 1, 1) := by decide +kernel
theorem d6_select_14 : decode b6_select 14 = .ok (.invokevirtual 147, 3) := by decide +kernel
theorem d6_select_17 : decode b6_select 17 = .ok (.iconst 1, 1) := by decide +kernel
theorem d6_select_18 : decode b6_select 18 = .ok (.isub, 1) := by decide +kernel
theorem d6_select_19 : decode b6_select 19 = .ok (.istore_n 3, 1) := by decide +kernel
theorem d6_select_20 : decode b6_select 20 = .ok (.iload_n 2, 1) := by decide +kernel
theorem d6_select_21 : decode b6_select 21 = .ok (.ifCond .ne 12, 3) := by decide +kernel
theorem d6_select_24 : decode b6_select 24 = .ok (.aload_n 1, 1) := by decide +kernel
theorem d6_select_25 : decode b6_select 25 = .ok (.iload_n 3, 1) := by decide +kernel
theorem d6_select_26 : decode b6_select 26 = .ok (.iconst 1, 1) := by decide +kernel
theorem d6_select_27 : decode b6_select 27 = .ok (.isub, 1) := by decide +kernel
theorem d6_select_28 : decode b6_select 28 = .ok (.aload_n 1, 1) := by decide +kernel
theorem d6_select_29 : decode b6_select 29 = .ok (.iload_n 3, 1) := by decide +kernel
theorem d6_select_30 : decode b6_select 30 = .ok (.invokevirtual 150, 3) := by decide +kernel
theorem d6_select_33 : decode b6_select 33 = .ok (.aload_n 1, 1) := by decide +kernel
theorem d6_select_34 : decode b6_select 34 = .ok (.invokevirtual 176, 3) := by decide +kernel
theorem d6_select_37 : decode b6_select 37 = .ok (.return_, 1) := by decide +kernel
theorem d6_stepNumbers_0 : decode b6_stepNumbers 0 = .ok (.iload_n 2, 1) := by decide +kernel
theorem d6_stepNumbers_1 : decode b6_stepNumbers 1 = .ok (.bipush 28, 2) := by decide +kernel
theorem d6_stepNumbers_3 : decode b6_stepNumbers 3 = .ok (.if_icmp .gt 11, 3) := by decide +kernel
theorem d6_stepNumbers_6 : decode b6_stepNumbers 6 = .ok (.aload_n 0, 1) := by decide +kernel
theorem d6_stepNumbers_7 : decode b6_stepNumbers 7 = .ok (.aload_n 1, 1) := by decide +kernel
theorem d6_stepNumbers_8 : decode b6_stepNumbers 8 = .ok (.iload_n 2, 1) := by decide +kernel
theorem d6_stepNumbers_9 : decode b6_stepNumbers 9 = .ok (.iload_n 3, 1) := by decide +kernel
theorem d6_stepNumbers_10 : decode b6_stepNumbers 10 = .ok (.invokevirtual 195, 3) := by decide +kernel
theorem d6_stepNumbers_13 : decode b6_stepNumbers 13 = .ok (.ireturn, 1) := by decide +kernel
theorem d6_stepNumbers_14 : decode b6_stepNumbers 14 = .ok (.iload_n 2, 1) := by decide +kernel
theorem d6_stepNumbers_15 : decode b6_stepNumbers 15 = .ok (.bipush 45, 2) := by decide +kernel
theorem d6_stepNumbers_17 : decode b6_stepNumbers 17 = .ok (.if_icmp .gt 9, 3) := by decide +kernel
theorem d6_stepNumbers_20 : decode b6_stepNumbers 20 = .ok (.aload_n 1, 1) := by decide +kernel
theorem d6_stepNumbers_21 : decode b6_stepNumbers 21 = .ok (.iload_n 2, 1) := by decide +kernel
theorem d6_stepNumbers_22 : decode b6_stepNumbers 22 = .ok (.invokestatic 198, 3) := by decide +kernel
theorem d6_stepNumbers_25 : decode b6_stepNumbers 25 = .ok (.ireturn, 1) := by decide +kernel
theorem d6_stepNumbers_26 : decode b6_stepNumbers 26 = .ok (.iload_n 2, 1) := by decide +kernel
theorem d6_stepNumbers_27 : decode b6_stepNumbers 27 = .ok (.bipush 64, 2) := by decide +kernel
theorem d6_stepNumbers_29 : decode b6_stepNumbers 29 = .ok (.if_icmp .gt 9, 3) := by decide +kernel
theorem d6_stepNumbers_32 : decode b6_stepNumbers 32 = .ok (.aload_n 1, 1) := by decide +kernel
theorem d6_stepNumbers_33 : decode b6_stepNumbers 33 = .ok (.iload_n 2, 1) := by decide +kernel
theorem d6_stepNumbers_34 : decode b6_stepNumbers 34 = .ok (.invokestatic 202, 3) := by decide +kernel
theorem d6_stepNumbers_37 : decode b6_stepNumbers 37 = .ok (.ireturn, 1) := by decide +kernel
theorem d6_stepNumbers_38 : decode b6_stepNumbers 38 = .ok (.iload_n 2, 1) := by decide +kernel
theorem d6_stepNumbers_39 : decode b6_stepNumbers 39 = .ok (.bipush 76, 2) := by decide +kernel
theorem d6_stepNumbers_41 : decode b6_stepNumbers 41 = .ok (.if_icmp .gt 9, 3) := by decide +kernel
theorem d6_stepNumbers_44 : decode b6_stepNumbers 44 = .ok (.aload_n 1, 1) := by decide +kernel
theorem d6_stepNumbers_45 : decode b6_stepNumbers 45 = .ok (.iload_n 2, 1) := by decide +kernel
theorem d6_stepNumbers_46 : decode b6_stepNumbers 46 = .ok (.invokestatic 205, 3) := by decide +kernel
theorem d6_stepNumbers_49 : decode b6_stepNumbers 49 = .ok (.ireturn, 1) := by decide +kernel
theorem d6_stepNumbers_50 : decode b6_stepNumbers 50 = .ok (.aload_n 1, 1) := by decide +kernel
theorem d6_stepNumbers_51 : decode b6_stepNumbers 51 = .ok (.iload_n 2, 1) := by decide +kernel
theorem d6_stepNumbers_52 : decode b6_stepNumbers 52 = .ok (.invokestatic 208, 3) := by decide +kernel
theorem d6_stepNumbers_55 : decode b6_stepNumbers 55 = .ok (.ireturn, 1) := by decide +kernel
theorem d6_stepMemory_0 : decode b6_stepMemory 0 = .ok (.iload_n 2, 1) := by decide +kernel
theorem d6_stepMemory_1 : decode b6_stepMemory 1 = .ok (.bipush 26, 2) := by decide +kernel
theorem d6_stepMemory_3 : decode b6_stepMemory 3 = .ok (.if_icmp .lt 7, 3) := by decide +kernel
theorem d6_stepMemory_6 : decode b6_stepMemory 6 = .ok (.iconst 1, 1) := by decide +kernel
theorem d6_stepMemory_7 : decode b6_stepMemory 7 = .ok (.goto 4, 3) := by decide +kernel
theorem d6_stepMemory_10 : decode b6_stepMemory 10 = .ok (.iconst 0, 1) := by decide +kernel
theorem d6_stepMemory_11 : decode b6_stepMemory 11 = .ok (.istore 4, 2) := by decide +kernel
theorem d6_stepMemory_13 : decode b6_stepMemory 13 = .ok (.iload 4, 2) := by decide +kernel
theorem d6_stepMemory_15 : decode b6_stepMemory 15 = .ok (.ifCond .eq 10, 3) := by decide +kernel
theorem d6_stepMemory_18 : decode b6_stepMemory 18 = .ok (.aload_n 1, 1) := by decide +kernel
theorem d6_stepMemory_19 : decode b6_stepMemory 19 = .ok (.invokevirtual 211, 3) := by decide +kernel
theorem d6_stepMemory_22 : decode b6_stepMemory 22 = .ok (.goto 4, 3) := by decide +kernel
theorem d6_stepMemory_25 : decode b6_stepMemory 25 = .ok (.lconst 0, 1) := by decide +kernel
theorem d6_stepMemory_26 : decode b6_stepMemory 26 = .ok (.lstore 5, 2) := by decide +kernel
theorem d6_stepMemory_28 : decode b6_stepMemory 28 = .ok (.aload_n 1, 1) := by decide +kernel
theorem d6_stepMemory_29 : decode b6_stepMemory 29 = .ok (.invokevirtual 135, 3) := by decide +kernel
theorem d6_stepMemory_32 : decode b6_stepMemory 32 = .ok (.i2l, 1) := by decide +kernel
theorem d6_stepMemory_33 : decode b6_stepMemory 33 = .ok (.iload_n 3, 1) := by decide +kernel
theorem d6_stepMemory_34 : decode b6_stepMemory 34 = .ok (.i2l, 1) := by decide +kernel
theorem d6_stepMemory_35 : decode b6_stepMemory 35 = .ok (.ladd, 1) := by decide +kernel
theorem d6_stepMemory_36 : decode b6_stepMemory 36 = .ok (.lstore 7, 2) := by decide +kernel
theorem d6_stepMemory_38 : decode b6_stepMemory 38 = .ok (.iload_n 2, 1) := by decide +kernel
theorem d6_stepMemory_39 : decode b6_stepMemory 39 = .ok (.invokestatic 215, 3) := by decide +kernel
theorem d6_stepMemory_42 : decode b6_stepMemory 42 = .ok (.istore 9, 2) := by decide +kernel
theorem d6_stepMemory_44 : decode b6_stepMemory 44 = .ok (.aload_n 0, 1) := by decide +kernel
theorem d6_stepMemory_45 : decode b6_stepMemory 45 = .ok (.getfield 20, 3) := by decide +kernel
theorem d6_stepMemory_48 : decode b6_stepMemory 48 = .ok (.lload 7, 2) := by decide +kernel
theorem d6_stepMemory_50 : decode b6_stepMemory 50 = .ok (.iload 9, 2) := by decide +kernel
theorem d6_stepMemory_52 : decode b6_stepMemory 52 = .ok (.invokevirtual 218, 3) := by decide +kernel
theorem d6_stepMemory_55 : decode b6_stepMemory 55 = .ok (.ifCond .ne 5, 3) := by decide +kernel
theorem d6_stepMemory_58 : decode b6_stepMemory 58 = .ok (.iconst 3, 1) := by decide +kernel
theorem d6_stepMemory_59 : decode b6_stepMemory 59 = .ok (.ireturn, 1) := by decide +kernel
theorem d6_stepMemory_60 : decode b6_stepMemory 60 = .ok (.iload 4, 2) := by decide +kernel
theorem d6_stepMemory_62 : decode b6_stepMemory 62 = .ok (.ifCond .eq 20, 3) := by decide +kernel
theorem d6_stepMemory_65 : decode b6_stepMemory 65 = .ok (.aload_n 0, 1) := by decide +kernel
theorem d6_stepMemory_66 : decode b6_stepMemory 66 = .ok (.getfield 20, 3) := by decide +kernel
theorem d6_stepMemory_69 : decode b6_stepMemory 69 = .ok (.lload 7, 2) := by decide +kernel
theorem d6_stepMemory_71 : decode b6_stepMemory 71 = .ok (.l2i, 1) := by decide +kernel
theorem d6_stepMemory_72 : decode b6_stepMemory 72 = .ok (.iload 9, 2) := by decide +kernel
theorem d6_stepMemory_74 : decode b6_stepMemory 74 = .ok (.lload 5, 2) := by decide +kernel
theorem d6_stepMemory_76 : decode b6_stepMemory 76 = .ok (.invokevirtual 222, 3) := by decide +kernel
theorem d6_stepMemory_79 : decode b6_stepMemory 79 = .ok (.goto 46, 3) := by decide +kernel
theorem d6_stepMemory_82 : decode b6_stepMemory 82 = .ok (.iload_n 2, 1) := by decide +kernel
theorem d6_stepMemory_83 : decode b6_stepMemory 83 = .ok (.bipush 23, 2) := by decide +kernel
theorem d6_stepMemory_85 : decode b6_stepMemory 85 = .ok (.if_icmp .ne 24, 3) := by decide +kernel
theorem d6_stepMemory_88 : decode b6_stepMemory 88 = .ok (.aload_n 1, 1) := by decide +kernel
theorem d6_stepMemory_89 : decode b6_stepMemory 89 = .ok (.aload_n 0, 1) := by decide +kernel
theorem d6_stepMemory_90 : decode b6_stepMemory 90 = .ok (.getfield 20, 3) := by decide +kernel
theorem d6_stepMemory_93 : decode b6_stepMemory 93 = .ok (.lload 7, 2) := by decide +kernel
theorem d6_stepMemory_95 : decode b6_stepMemory 95 = .ok (.l2i, 1) := by decide +kernel
theorem d6_stepMemory_96 : decode b6_stepMemory 96 = .ok (.iload 9, 2) := by decide +kernel
theorem d6_stepMemory_98 : decode b6_stepMemory 98 = .ok (.invokevirtual 226, 3) := by decide +kernel
theorem d6_stepMemory_101 : decode b6_stepMemory 101 = .ok (.l2i, 1) := by decide +kernel
theorem d6_stepMemory_102 : decode b6_stepMemory 102 = .ok (.i2l, 1) := by decide +kernel
theorem d6_stepMemory_103 : decode b6_stepMemory 103 = .ok (.invokevirtual 191, 3) := by decide +kernel
theorem d6_stepMemory_106 : decode b6_stepMemory 106 = .ok (.goto 19, 3) := by decide +kernel
theorem d6_stepMemory_109 : decode b6_stepMemory 109 = .ok (.aload_n 1, 1) := by decide +kernel
theorem d6_stepMemory_110 : decode b6_stepMemory 110 = .ok (.aload_n 0, 1) := by decide +kernel
theorem d6_stepMemory_111 : decode b6_stepMemory 111 = .ok (.getfield 20, 3) := by decide +kernel
theorem d6_stepMemory_114 : decode b6_stepMemory 114 = .ok (.lload 7, 2) := by decide +kernel
theorem d6_stepMemory_116 : decode b6_stepMemory 116 = .ok (.l2i, 1) := by decide +kernel
theorem d6_stepMemory_117 : decode b6_stepMemory 117 = .ok (.iload 9, 2) := by decide +kernel
theorem d6_stepMemory_119 : decode b6_stepMemory 119 = .ok (.invokevirtual 226, 3) := by decide +kernel
theorem d6_stepMemory_122 : decode b6_stepMemory 122 = .ok (.invokevirtual 191, 3) := by decide +kernel
theorem d6_stepMemory_125 : decode b6_stepMemory 125 = .ok (.iconst 0, 1) := by decide +kernel
theorem d6_stepMemory_126 : decode b6_stepMemory 126 = .ok (.ireturn, 1) := by decide +kernel
theorem d6_sizeInMemory_0 : decode b6_sizeInMemory 0 = .ok (.iload_n 0, 1) := by decide +kernel
theorem d6_sizeInMemory_1 : decode b6_sizeInMemory 1 = .ok (.tableswitch 40 24 28 #[35, 37, 40, 35, 37], 35) := by decide +kernel
theorem d6_sizeInMemory_36 : decode b6_sizeInMemory 36 = .ok (.iconst 1, 1) := by decide +kernel
theorem d6_sizeInMemory_37 : decode b6_sizeInMemory 37 = .ok (.ireturn, 1) := by decide +kernel
theorem d6_sizeInMemory_38 : decode b6_sizeInMemory 38 = .ok (.bipush 8, 2) := by decide +kernel
theorem d6_sizeInMemory_40 : decode b6_sizeInMemory 40 = .ok (.ireturn, 1) := by decide +kernel
theorem d6_sizeInMemory_41 : decode b6_sizeInMemory 41 = .ok (.iconst 4, 1) := by decide +kernel
theorem d6_sizeInMemory_42 : decode b6_sizeInMemory 42 = .ok (.ireturn, 1) := by decide +kernel
theorem d6_stepInts_0 : decode b6_stepInts 0 = .ok (.aload_n 0, 1) := by decide +kernel
theorem d6_stepInts_1 : decode b6_stepInts 1 = .ok (.invokevirtual 135, 3) := by decide +kernel
theorem d6_stepInts_4 : decode b6_stepInts 4 = .ok (.istore_n 2, 1) := by decide +kernel
theorem d6_stepInts_5 : decode b6_stepInts 5 = .ok (.iload_n 1, 1) := by decide +kernel
theorem d6_stepInts_6 : decode b6_stepInts 6 = .ok (.bipush 45, 2) := by decide +kernel
theorem d6_stepInts_8 : decode b6_stepInts 8 = .ok (.if_icmp .ne 18, 3) := by decide +kernel
theorem d6_stepInts_11 : decode b6_stepInts 11 = .ok (.aload_n 0, 1) := by decide +kernel
theorem d6_stepInts_12 : decode b6_stepInts 12 = .ok (.iload_n 2, 1) := by decide +kernel
theorem d6_stepInts_13 : decode b6_stepInts 13 = .ok (.ifCond .ne 7, 3) := by decide +kernel
theorem d6_stepInts_16 : decode b6_stepInts 16 = .ok (.iconst 1, 1) := by decide +kernel
theorem d6_stepInts_17 : decode b6_stepInts 17 = .ok (.goto 4, 3) := by decide +kernel
theorem d6_stepInts_20 : decode b6_stepInts 20 = .ok (.iconst 0, 1) := by decide +kernel
theorem d6_stepInts_21 : decode b6_stepInts 21 = .ok (.invokevirtual 230, 3) := by decide +kernel
theorem d6_stepInts_24 : decode b6_stepInts 24 = .ok (.iconst 0, 1) := by decide +kernel
theorem d6_stepInts_25 : decode b6_stepInts 25 = .ok (.ireturn, 1) := by decide +kernel
theorem d6_stepInts_26 : decode b6_stepInts 26 = .ok (.aload_n 0, 1) := by decide +kernel
theorem d6_stepInts_27 : decode b6_stepInts 27 = .ok (.invokevirtual 135, 3) := by decide +kernel
theorem d6_stepInts_30 : decode b6_stepInts 30 = .ok (.istore_n 3, 1) := by decide +kernel
theorem d6_stepInts_31 : decode b6_stepInts 31 = .ok (.iload_n 1, 1) := by decide +kernel
theorem d6_stepInts_32 : decode b6_stepInts 32 = .ok (.bipush 33, 2) := by decide +kernel
theorem d6_stepInts_34 : decode b6_stepInts 34 = .ok (.if_icmp .eq 9, 3) := by decide +kernel
theorem d6_stepInts_37 : decode b6_stepInts 37 = .ok (.iload_n 1, 1) := by decide +kernel
theorem d6_stepInts_38 : decode b6_stepInts 38 = .ok (.bipush 34, 2) := by decide +kernel
theorem d6_stepInts_40 : decode b6_stepInts 40 = .ok (.if_icmp .ne 33, 3) := by decide +kernel
theorem d6_stepInts_43 : decode b6_stepInts 43 = .ok (.iload_n 2, 1) := by decide +kernel
theorem d6_stepInts_44 : decode b6_stepInts 44 = .ok (.ifCond .ne 5, 3) := by decide +kernel
theorem d6_stepInts_47 : decode b6_stepInts 47 = .ok (.iconst 2, 1) := by decide +kernel
theorem d6_stepInts_48 : decode b6_stepInts 48 = .ok (.ireturn, 1) := by decide +kernel
theorem d6_stepInts_49 : decode b6_stepInts 49 = .ok (.aload_n 0, 1) := by decide +kernel
theorem d6_stepInts_50 : decode b6_stepInts 50 = .ok (.iload_n 1, 1) := by decide +kernel
theorem d6_stepInts_51 : decode b6_stepInts 51 = .ok (.bipush 33, 2) := by decide +kernel
theorem d6_stepInts_53 : decode b6_stepInts 53 = .ok (.if_icmp .ne 10, 3) := by decide +kernel
theorem d6_stepInts_56 : decode b6_stepInts 56 = .ok (.iload_n 3, 1) := by decide +kernel
theorem d6_stepInts_57 : decode b6_stepInts 57 = .ok (.iload_n 2, 1) := by decide +kernel
theorem d6_stepInts_58 : decode b6_stepInts 58 = .ok (.idiv, 1) := by decide +kernel
theorem d6_stepInts_59 : decode b6_stepInts 59 = .ok (.i2l, 1) := by decide +kernel
theorem d6_stepInts_60 : decode b6_stepInts 60 = .ok (.goto 7, 3) := by decide +kernel
theorem d6_stepInts_63 : decode b6_stepInts 63 = .ok (.iload_n 3, 1) := by decide +kernel
theorem d6_stepInts_64 : decode b6_stepInts 64 = .ok (.iload_n 2, 1) := by decide +kernel
theorem d6_stepInts_65 : decode b6_stepInts 65 = .ok (.irem, 1) := by decide +kernel
theorem d6_stepInts_66 : decode b6_stepInts 66 = .ok (.i2l, 1) := by decide +kernel
theorem d6_stepInts_67 : decode b6_stepInts 67 = .ok (.invokevirtual 191, 3) := by decide +kernel
theorem d6_stepInts_70 : decode b6_stepInts 70 = .ok (.goto 14, 3) := by decide +kernel
theorem d6_stepInts_73 : decode b6_stepInts 73 = .ok (.aload_n 0, 1) := by decide +kernel
theorem d6_stepInts_74 : decode b6_stepInts 74 = .ok (.iload_n 1, 1) := by decide +kernel
theorem d6_stepInts_75 : decode b6_stepInts 75 = .ok (.iload_n 3, 1) := by decide +kernel
theorem d6_stepInts_76 : decode b6_stepInts 76 = .ok (.iload_n 2, 1) := by decide +kernel
theorem d6_stepInts_77 : decode b6_stepInts 77 = .ok (.invokestatic 234, 3) := by decide +kernel
theorem d6_stepInts_80 : decode b6_stepInts 80 = .ok (.i2l, 1) := by decide +kernel
theorem d6_stepInts_81 : decode b6_stepInts 81 = .ok (.invokevirtual 191, 3) := by decide +kernel
theorem d6_stepInts_84 : decode b6_stepInts 84 = .ok (.iconst 0, 1) := by decide +kernel
theorem d6_stepInts_85 : decode b6_stepInts 85 = .ok (.ireturn, 1) := by decide +kernel
theorem d6_ofInts_0 : decode b6_ofInts 0 = .ok (.iload_n 0, 1) := by decide +kernel
theorem d6_ofInts_1 : decode b6_ofInts 1 = .ok (.tableswitch 140 30 43 #[71, 75, 79, 140, 140, 83, 87, 91, 95, 99, 103, 107, 118, 129], 71) := by decide +kernel
theorem d6_ofInts_72 : decode b6_ofInts 72 = .ok (.iload_n 1, 1) := by decide +kernel
theorem d6_ofInts_73 : decode b6_ofInts 73 = .ok (.iload_n 2, 1) := by decide +kernel
theorem d6_ofInts_74 : decode b6_ofInts 74 = .ok (.iadd, 1) := by decide +kernel
theorem d6_ofInts_75 : decode b6_ofInts 75 = .ok (.ireturn, 1) := by decide +kernel
theorem d6_ofInts_76 : decode b6_ofInts 76 = .ok (.iload_n 1, 1) := by decide +kernel
theorem d6_ofInts_77 : decode b6_ofInts 77 = .ok (.iload_n 2, 1) := by decide +kernel
theorem d6_ofInts_78 : decode b6_ofInts 78 = .ok (.isub, 1) := by decide +kernel
theorem d6_ofInts_79 : decode b6_ofInts 79 = .ok (.ireturn, 1) := by decide +kernel
theorem d6_ofInts_80 : decode b6_ofInts 80 = .ok (.iload_n 1, 1) := by decide +kernel
theorem d6_ofInts_81 : decode b6_ofInts 81 = .ok (.iload_n 2, 1) := by decide +kernel
theorem d6_ofInts_82 : decode b6_ofInts 82 = .ok (.imul, 1) := by decide +kernel
theorem d6_ofInts_83 : decode b6_ofInts 83 = .ok (.ireturn, 1) := by decide +kernel
theorem d6_ofInts_84 : decode b6_ofInts 84 = .ok (.iload_n 1, 1) := by decide +kernel
theorem d6_ofInts_85 : decode b6_ofInts 85 = .ok (.iload_n 2, 1) := by decide +kernel
theorem d6_ofInts_86 : decode b6_ofInts 86 = .ok (.iand, 1) := by decide +kernel
theorem d6_ofInts_87 : decode b6_ofInts 87 = .ok (.ireturn, 1) := by decide +kernel
theorem d6_ofInts_88 : decode b6_ofInts 88 = .ok (.iload_n 1, 1) := by decide +kernel
theorem d6_ofInts_89 : decode b6_ofInts 89 = .ok (.iload_n 2, 1) := by decide +kernel
theorem d6_ofInts_90 : decode b6_ofInts 90 = .ok (.ior, 1) := by decide +kernel
theorem d6_ofInts_91 : decode b6_ofInts 91 = .ok (.ireturn, 1) := by decide +kernel
theorem d6_ofInts_92 : decode b6_ofInts 92 = .ok (.iload_n 1, 1) := by decide +kernel
theorem d6_ofInts_93 : decode b6_ofInts 93 = .ok (.iload_n 2, 1) := by decide +kernel
theorem d6_ofInts_94 : decode b6_ofInts 94 = .ok (.ixor, 1) := by decide +kernel
theorem d6_ofInts_95 : decode b6_ofInts 95 = .ok (.ireturn, 1) := by decide +kernel
theorem d6_ofInts_96 : decode b6_ofInts 96 = .ok (.iload_n 1, 1) := by decide +kernel
theorem d6_ofInts_97 : decode b6_ofInts 97 = .ok (.iload_n 2, 1) := by decide +kernel
theorem d6_ofInts_98 : decode b6_ofInts 98 = .ok (.ishl, 1) := by decide +kernel
theorem d6_ofInts_99 : decode b6_ofInts 99 = .ok (.ireturn, 1) := by decide +kernel
theorem d6_ofInts_100 : decode b6_ofInts 100 = .ok (.iload_n 1, 1) := by decide +kernel
theorem d6_ofInts_101 : decode b6_ofInts 101 = .ok (.iload_n 2, 1) := by decide +kernel
theorem d6_ofInts_102 : decode b6_ofInts 102 = .ok (.ishr, 1) := by decide +kernel
theorem d6_ofInts_103 : decode b6_ofInts 103 = .ok (.ireturn, 1) := by decide +kernel
theorem d6_ofInts_104 : decode b6_ofInts 104 = .ok (.iload_n 1, 1) := by decide +kernel
theorem d6_ofInts_105 : decode b6_ofInts 105 = .ok (.iload_n 2, 1) := by decide +kernel
theorem d6_ofInts_106 : decode b6_ofInts 106 = .ok (.iushr, 1) := by decide +kernel
theorem d6_ofInts_107 : decode b6_ofInts 107 = .ok (.ireturn, 1) := by decide +kernel
theorem d6_ofInts_108 : decode b6_ofInts 108 = .ok (.iload_n 1, 1) := by decide +kernel
theorem d6_ofInts_109 : decode b6_ofInts 109 = .ok (.iload_n 2, 1) := by decide +kernel
theorem d6_ofInts_110 : decode b6_ofInts 110 = .ok (.if_icmp .ne 7, 3) := by decide +kernel
theorem d6_ofInts_113 : decode b6_ofInts 113 = .ok (.iconst 1, 1) := by decide +kernel
theorem d6_ofInts_114 : decode b6_ofInts 114 = .ok (.goto 4, 3) := by decide +kernel
theorem d6_ofInts_117 : decode b6_ofInts 117 = .ok (.iconst 0, 1) := by decide +kernel
theorem d6_ofInts_118 : decode b6_ofInts 118 = .ok (.ireturn, 1) := by decide +kernel
theorem d6_ofInts_119 : decode b6_ofInts 119 = .ok (.iload_n 1, 1) := by decide +kernel
theorem d6_ofInts_120 : decode b6_ofInts 120 = .ok (.iload_n 2, 1) := by decide +kernel
theorem d6_ofInts_121 : decode b6_ofInts 121 = .ok (.if_icmp .eq 7, 3) := by decide +kernel
theorem d6_ofInts_124 : decode b6_ofInts 124 = .ok (.iconst 1, 1) := by decide +kernel
theorem d6_ofInts_125 : decode b6_ofInts 125 = .ok (.goto 4, 3) := by decide +kernel
theorem d6_ofInts_128 : decode b6_ofInts 128 = .ok (.iconst 0, 1) := by decide +kernel
theorem d6_ofInts_129 : decode b6_ofInts 129 = .ok (.ireturn, 1) := by decide +kernel
theorem d6_ofInts_130 : decode b6_ofInts 130 = .ok (.iload_n 1, 1) := by decide +kernel
theorem d6_ofInts_131 : decode b6_ofInts 131 = .ok (.iload_n 2, 1) := by decide +kernel
theorem d6_ofInts_132 : decode b6_ofInts 132 = .ok (.if_icmp .ge 7, 3) := by decide +kernel
theorem d6_ofInts_135 : decode b6_ofInts 135 = .ok (.iconst 1, 1) := by decide +kernel
theorem d6_ofInts_136 : decode b6_ofInts 136 = .ok (.goto 4, 3) := by decide +kernel
theorem d6_ofInts_139 : decode b6_ofInts 139 = .ok (.iconst 0, 1) := by decide +kernel
theorem d6_ofInts_140 : decode b6_ofInts 140 = .ok (.ireturn, 1) := by decide +kernel
theorem d6_ofInts_141 : decode b6_ofInts 141 = .ok (.iload_n 1, 1) := by decide +kernel
theorem d6_ofInts_142 : decode b6_ofInts 142 = .ok (.i2l, 1) := by decide +kernel
theorem d6_ofInts_143 : decode b6_ofInts 143 = .ok (.ldc2_w 238, 3) := by decide +kernel
theorem d6_ofInts_146 : decode b6_ofInts 146 = .ok (.land, 1) := by decide +kernel
theorem d6_ofInts_147 : decode b6_ofInts 147 = .ok (.iload_n 2, 1) := by decide +kernel
theorem d6_ofInts_148 : decode b6_ofInts 148 = .ok (.i2l, 1) := by decide +kernel
theorem d6_ofInts_149 : decode b6_ofInts 149 = .ok (.ldc2_w 238, 3) := by decide +kernel
theorem d6_ofInts_152 : decode b6_ofInts 152 = .ok (.land, 1) := by decide +kernel
theorem d6_ofInts_153 : decode b6_ofInts 153 = .ok (.lcmp, 1) := by decide +kernel
theorem d6_ofInts_154 : decode b6_ofInts 154 = .ok (.ifCond .ge 7, 3) := by decide +kernel
theorem d6_ofInts_157 : decode b6_ofInts 157 = .ok (.iconst 1, 1) := by decide +kernel
theorem d6_ofInts_158 : decode b6_ofInts 158 = .ok (.goto 4, 3) := by decide +kernel
theorem d6_ofInts_161 : decode b6_ofInts 161 = .ok (.iconst 0, 1) := by decide +kernel
theorem d6_ofInts_162 : decode b6_ofInts 162 = .ok (.ireturn, 1) := by decide +kernel
theorem d6_stepLongs_0 : decode b6_stepLongs 0 = .ok (.aload_n 0, 1) := by decide +kernel
theorem d6_stepLongs_1 : decode b6_stepLongs 1 = .ok (.invokevirtual 211, 3) := by decide +kernel
theorem d6_stepLongs_4 : decode b6_stepLongs 4 = .ok (.lstore_n 2, 1) := by decide +kernel
theorem d6_stepLongs_5 : decode b6_stepLongs 5 = .ok (.iload_n 1, 1) := by decide +kernel
theorem d6_stepLongs_6 : decode b6_stepLongs 6 = .ok (.bipush 64, 2) := by decide +kernel
theorem d6_stepLongs_8 : decode b6_stepLongs 8 = .ok (.if_icmp .ne 20, 3) := by decide +kernel
theorem d6_stepLongs_11 : decode b6_stepLongs 11 = .ok (.aload_n 0, 1) := by decide +kernel
theorem d6_stepLongs_12 : decode b6_stepLongs 12 = .ok (.lload_n 2, 1) := by decide +kernel
theorem d6_stepLongs_13 : decode b6_stepLongs 13 = .ok (.lconst 0, 1) := by decide +kernel
theorem d6_stepLongs_14 : decode b6_stepLongs 14 = .ok (.lcmp, 1) := by decide +kernel
theorem d6_stepLongs_15 : decode b6_stepLongs 15 = .ok (.ifCond .ne 7, 3) := by decide +kernel
theorem d6_stepLongs_18 : decode b6_stepLongs 18 = .ok (.iconst 1, 1) := by decide +kernel
theorem d6_stepLongs_19 : decode b6_stepLongs 19 = .ok (.goto 4, 3) := by decide +kernel
theorem d6_stepLongs_22 : decode b6_stepLongs 22 = .ok (.iconst 0, 1) := by decide +kernel
theorem d6_stepLongs_23 : decode b6_stepLongs 23 = .ok (.invokevirtual 230, 3) := by decide +kernel
theorem d6_stepLongs_26 : decode b6_stepLongs 26 = .ok (.iconst 0, 1) := by decide +kernel
theorem d6_stepLongs_27 : decode b6_stepLongs 27 = .ok (.ireturn, 1) := by decide +kernel
theorem d6_stepLongs_28 : decode b6_stepLongs 28 = .ok (.aload_n 0, 1) := by decide +kernel
theorem d6_stepLongs_29 : decode b6_stepLongs 29 = .ok (.invokevirtual 211, 3) := by decide +kernel
theorem d6_stepLongs_32 : decode b6_stepLongs 32 = .ok (.lstore 4, 2) := by decide +kernel
theorem d6_stepLongs_34 : decode b6_stepLongs 34 = .ok (.iload_n 1, 1) := by decide +kernel
theorem d6_stepLongs_35 : decode b6_stepLongs 35 = .ok (.bipush 53, 2) := by decide +kernel
theorem d6_stepLongs_37 : decode b6_stepLongs 37 = .ok (.if_icmp .eq 9, 3) := by decide +kernel
theorem d6_stepLongs_40 : decode b6_stepLongs 40 = .ok (.iload_n 1, 1) := by decide +kernel
theorem d6_stepLongs_41 : decode b6_stepLongs 41 = .ok (.bipush 54, 2) := by decide +kernel
theorem d6_stepLongs_43 : decode b6_stepLongs 43 = .ok (.if_icmp .ne 35, 3) := by decide +kernel
theorem d6_stepLongs_46 : decode b6_stepLongs 46 = .ok (.lload_n 2, 1) := by decide +kernel
theorem d6_stepLongs_47 : decode b6_stepLongs 47 = .ok (.lconst 0, 1) := by decide +kernel
theorem d6_stepLongs_48 : decode b6_stepLongs 48 = .ok (.lcmp, 1) := by decide +kernel
theorem d6_stepLongs_49 : decode b6_stepLongs 49 = .ok (.ifCond .ne 5, 3) := by decide +kernel
theorem d6_stepLongs_52 : decode b6_stepLongs 52 = .ok (.iconst 2, 1) := by decide +kernel
theorem d6_stepLongs_53 : decode b6_stepLongs 53 = .ok (.ireturn, 1) := by decide +kernel
theorem d6_stepLongs_54 : decode b6_stepLongs 54 = .ok (.aload_n 0, 1) := by decide +kernel
theorem d6_stepLongs_55 : decode b6_stepLongs 55 = .ok (.iload_n 1, 1) := by decide +kernel
theorem d6_stepLongs_56 : decode b6_stepLongs 56 = .ok (.bipush 53, 2) := by decide +kernel
theorem d6_stepLongs_58 : decode b6_stepLongs 58 = .ok (.if_icmp .ne 10, 3) := by decide +kernel
theorem d6_stepLongs_61 : decode b6_stepLongs 61 = .ok (.lload 4, 2) := by decide +kernel
theorem d6_stepLongs_63 : decode b6_stepLongs 63 = .ok (.lload_n 2, 1) := by decide +kernel
theorem d6_stepLongs_64 : decode b6_stepLongs 64 = .ok (.ldiv, 1) := by decide +kernel
theorem d6_stepLongs_65 : decode b6_stepLongs 65 = .ok (.goto 7, 3) := by decide +kernel
theorem d6_stepLongs_68 : decode b6_stepLongs 68 = .ok (.lload 4, 2) := by decide +kernel
theorem d6_stepLongs_70 : decode b6_stepLongs 70 = .ok (.lload_n 2, 1) := by decide +kernel
theorem d6_stepLongs_71 : decode b6_stepLongs 71 = .ok (.lrem, 1) := by decide +kernel
theorem d6_stepLongs_72 : decode b6_stepLongs 72 = .ok (.invokevirtual 191, 3) := by decide +kernel
theorem d6_stepLongs_75 : decode b6_stepLongs 75 = .ok (.goto 14, 3) := by decide +kernel
theorem d6_stepLongs_78 : decode b6_stepLongs 78 = .ok (.aload_n 0, 1) := by decide +kernel
theorem d6_stepLongs_79 : decode b6_stepLongs 79 = .ok (.iload_n 1, 1) := by decide +kernel
theorem d6_stepLongs_80 : decode b6_stepLongs 80 = .ok (.lload 4, 2) := by decide +kernel
theorem d6_stepLongs_82 : decode b6_stepLongs 82 = .ok (.lload_n 2, 1) := by decide +kernel
theorem d6_stepLongs_83 : decode b6_stepLongs 83 = .ok (.invokestatic 240, 3) := by decide +kernel
theorem d6_stepLongs_86 : decode b6_stepLongs 86 = .ok (.invokevirtual 191, 3) := by decide +kernel
theorem d6_stepLongs_89 : decode b6_stepLongs 89 = .ok (.iconst 0, 1) := by decide +kernel
theorem d6_stepLongs_90 : decode b6_stepLongs 90 = .ok (.ireturn, 1) := by decide +kernel
theorem d6_ofLongs_0 : decode b6_ofLongs 0 = .ok (.iload_n 0, 1) := by decide +kernel
theorem d6_ofLongs_1 : decode b6_ofLongs 1 = .ok (.tableswitch 130 50 62 #[67, 71, 75, 130, 130, 79, 83, 87, 91, 96, 101, 106, 118], 67) := by decide +kernel
theorem d6_ofLongs_68 : decode b6_ofLongs 68 = .ok (.lload_n 1, 1) := by decide +kernel
theorem d6_ofLongs_69 : decode b6_ofLongs 69 = .ok (.lload_n 3, 1) := by decide +kernel
theorem d6_ofLongs_70 : decode b6_ofLongs 70 = .ok (.ladd, 1) := by decide +kernel
theorem d6_ofLongs_71 : decode b6_ofLongs 71 = .ok (.lreturn, 1) := by decide +kernel
theorem d6_ofLongs_72 : decode b6_ofLongs 72 = .ok (.lload_n 1, 1) := by decide +kernel
theorem d6_ofLongs_73 : decode b6_ofLongs 73 = .ok (.lload_n 3, 1) := by decide +kernel
theorem d6_ofLongs_74 : decode b6_ofLongs 74 = .ok (.lsub, 1) := by decide +kernel
theorem d6_ofLongs_75 : decode b6_ofLongs 75 = .ok (.lreturn, 1) := by decide +kernel
theorem d6_ofLongs_76 : decode b6_ofLongs 76 = .ok (.lload_n 1, 1) := by decide +kernel
theorem d6_ofLongs_77 : decode b6_ofLongs 77 = .ok (.lload_n 3, 1) := by decide +kernel
theorem d6_ofLongs_78 : decode b6_ofLongs 78 = .ok (.lmul, 1) := by decide +kernel
theorem d6_ofLongs_79 : decode b6_ofLongs 79 = .ok (.lreturn, 1) := by decide +kernel
theorem d6_ofLongs_80 : decode b6_ofLongs 80 = .ok (.lload_n 1, 1) := by decide +kernel
theorem d6_ofLongs_81 : decode b6_ofLongs 81 = .ok (.lload_n 3, 1) := by decide +kernel
theorem d6_ofLongs_82 : decode b6_ofLongs 82 = .ok (.land, 1) := by decide +kernel
theorem d6_ofLongs_83 : decode b6_ofLongs 83 = .ok (.lreturn, 1) := by decide +kernel
theorem d6_ofLongs_84 : decode b6_ofLongs 84 = .ok (.lload_n 1, 1) := by decide +kernel
theorem d6_ofLongs_85 : decode b6_ofLongs 85 = .ok (.lload_n 3, 1) := by decide +kernel
theorem d6_ofLongs_86 : decode b6_ofLongs 86 = .ok (.lor, 1) := by decide +kernel
theorem d6_ofLongs_87 : decode b6_ofLongs 87 = .ok (.lreturn, 1) := by decide +kernel
theorem d6_ofLongs_88 : decode b6_ofLongs 88 = .ok (.lload_n 1, 1) := by decide +kernel
theorem d6_ofLongs_89 : decode b6_ofLongs 89 = .ok (.lload_n 3, 1) := by decide +kernel
theorem d6_ofLongs_90 : decode b6_ofLongs 90 = .ok (.lxor, 1) := by decide +kernel
theorem d6_ofLongs_91 : decode b6_ofLongs 91 = .ok (.lreturn, 1) := by decide +kernel
theorem d6_ofLongs_92 : decode b6_ofLongs 92 = .ok (.lload_n 1, 1) := by decide +kernel
theorem d6_ofLongs_93 : decode b6_ofLongs 93 = .ok (.lload_n 3, 1) := by decide +kernel
theorem d6_ofLongs_94 : decode b6_ofLongs 94 = .ok (.l2i, 1) := by decide +kernel
theorem d6_ofLongs_95 : decode b6_ofLongs 95 = .ok (.lshl, 1) := by decide +kernel
theorem d6_ofLongs_96 : decode b6_ofLongs 96 = .ok (.lreturn, 1) := by decide +kernel
theorem d6_ofLongs_97 : decode b6_ofLongs 97 = .ok (.lload_n 1, 1) := by decide +kernel
theorem d6_ofLongs_98 : decode b6_ofLongs 98 = .ok (.lload_n 3, 1) := by decide +kernel
theorem d6_ofLongs_99 : decode b6_ofLongs 99 = .ok (.l2i, 1) := by decide +kernel
theorem d6_ofLongs_100 : decode b6_ofLongs 100 = .ok (.lshr, 1) := by decide +kernel
theorem d6_ofLongs_101 : decode b6_ofLongs 101 = .ok (.lreturn, 1) := by decide +kernel
theorem d6_ofLongs_102 : decode b6_ofLongs 102 = .ok (.lload_n 1, 1) := by decide +kernel
theorem d6_ofLongs_103 : decode b6_ofLongs 103 = .ok (.lload_n 3, 1) := by decide +kernel
theorem d6_ofLongs_104 : decode b6_ofLongs 104 = .ok (.l2i, 1) := by decide +kernel
theorem d6_ofLongs_105 : decode b6_ofLongs 105 = .ok (.lushr, 1) := by decide +kernel
theorem d6_ofLongs_106 : decode b6_ofLongs 106 = .ok (.lreturn, 1) := by decide +kernel
theorem d6_ofLongs_107 : decode b6_ofLongs 107 = .ok (.lload_n 1, 1) := by decide +kernel
theorem d6_ofLongs_108 : decode b6_ofLongs 108 = .ok (.lload_n 3, 1) := by decide +kernel
theorem d6_ofLongs_109 : decode b6_ofLongs 109 = .ok (.lcmp, 1) := by decide +kernel
theorem d6_ofLongs_110 : decode b6_ofLongs 110 = .ok (.ifCond .ne 7, 3) := by decide +kernel
theorem d6_ofLongs_113 : decode b6_ofLongs 113 = .ok (.lconst 1, 1) := by decide +kernel
theorem d6_ofLongs_114 : decode b6_ofLongs 114 = .ok (.goto 4, 3) := by decide +kernel
theorem d6_ofLongs_117 : decode b6_ofLongs 117 = .ok (.lconst 0, 1) := by decide +kernel
theorem d6_ofLongs_118 : decode b6_ofLongs 118 = .ok (.lreturn, 1) := by decide +kernel
theorem d6_ofLongs_119 : decode b6_ofLongs 119 = .ok (.lload_n 1, 1) := by decide +kernel
theorem d6_ofLongs_120 : decode b6_ofLongs 120 = .ok (.lload_n 3, 1) := by decide +kernel
theorem d6_ofLongs_121 : decode b6_ofLongs 121 = .ok (.lcmp, 1) := by decide +kernel
theorem d6_ofLongs_122 : decode b6_ofLongs 122 = .ok (.ifCond .eq 7, 3) := by decide +kernel
theorem d6_ofLongs_125 : decode b6_ofLongs 125 = .ok (.lconst 1, 1) := by decide +kernel
theorem d6_ofLongs_126 : decode b6_ofLongs 126 = .ok (.goto 4, 3) := by decide +kernel
theorem d6_ofLongs_129 : decode b6_ofLongs 129 = .ok (.lconst 0, 1) := by decide +kernel
theorem d6_ofLongs_130 : decode b6_ofLongs 130 = .ok (.lreturn, 1) := by decide +kernel
theorem d6_ofLongs_131 : decode b6_ofLongs 131 = .ok (.lload_n 1, 1) := by decide +kernel
theorem d6_ofLongs_132 : decode b6_ofLongs 132 = .ok (.lload_n 3, 1) := by decide +kernel
theorem d6_ofLongs_133 : decode b6_ofLongs 133 = .ok (.lcmp, 1) := by decide +kernel
theorem d6_ofLongs_134 : decode b6_ofLongs 134 = .ok (.ifCond .ge 7, 3) := by decide +kernel
theorem d6_ofLongs_137 : decode b6_ofLongs 137 = .ok (.lconst 1, 1) := by decide +kernel
theorem d6_ofLongs_138 : decode b6_ofLongs 138 = .ok (.goto 4, 3) := by decide +kernel
theorem d6_ofLongs_141 : decode b6_ofLongs 141 = .ok (.lconst 0, 1) := by decide +kernel
theorem d6_ofLongs_142 : decode b6_ofLongs 142 = .ok (.lreturn, 1) := by decide +kernel
theorem d6_stepReals_0 : decode b6_stepReals 0 = .ok (.aload_n 0, 1) := by decide +kernel
theorem d6_stepReals_1 : decode b6_stepReals 1 = .ok (.invokevirtual 244, 3) := by decide +kernel
theorem d6_stepReals_4 : decode b6_stepReals 4 = .ok (.dstore_n 2, 1) := by decide +kernel
theorem d6_stepReals_5 : decode b6_stepReals 5 = .ok (.iload_n 1, 1) := by decide +kernel
theorem d6_stepReals_6 : decode b6_stepReals 6 = .ok (.bipush 76, 2) := by decide +kernel
theorem d6_stepReals_8 : decode b6_stepReals 8 = .ok (.if_icmp .ne 12, 3) := by decide +kernel
theorem d6_stepReals_11 : decode b6_stepReals 11 = .ok (.aload_n 0, 1) := by decide +kernel
theorem d6_stepReals_12 : decode b6_stepReals 12 = .ok (.dconst 0, 1) := by decide +kernel
theorem d6_stepReals_13 : decode b6_stepReals 13 = .ok (.dload_n 2, 1) := by decide +kernel
theorem d6_stepReals_14 : decode b6_stepReals 14 = .ok (.dsub, 1) := by decide +kernel
theorem d6_stepReals_15 : decode b6_stepReals 15 = .ok (.invokevirtual 187, 3) := by decide +kernel
theorem d6_stepReals_18 : decode b6_stepReals 18 = .ok (.iconst 0, 1) := by decide +kernel
theorem d6_stepReals_19 : decode b6_stepReals 19 = .ok (.ireturn, 1) := by decide +kernel
theorem d6_stepReals_20 : decode b6_stepReals 20 = .ok (.aload_n 0, 1) := by decide +kernel
theorem d6_stepReals_21 : decode b6_stepReals 21 = .ok (.invokevirtual 244, 3) := by decide +kernel
theorem d6_stepReals_24 : decode b6_stepReals 24 = .ok (.dstore 4, 2) := by decide +kernel
theorem d6_stepReals_26 : decode b6_stepReals 26 = .ok (.iload_n 1, 1) := by decide +kernel
theorem d6_stepReals_27 : decode b6_stepReals 27 = .ok (.bipush 73, 2) := by decide +kernel
theorem d6_stepReals_29 : decode b6_stepReals 29 = .ok (.if_icmp .ne 11, 3) := by decide +kernel
theorem d6_stepReals_32 : decode b6_stepReals 32 = .ok (.dload_n 2, 1) := by decide +kernel
theorem d6_stepReals_33 : decode b6_stepReals 33 = .ok (.dconst 0, 1) := by decide +kernel
theorem d6_stepReals_34 : decode b6_stepReals 34 = .ok (.dcmp .l, 1) := by decide +kernel
theorem d6_stepReals_35 : decode b6_stepReals 35 = .ok (.ifCond .ne 5, 3) := by decide +kernel
theorem d6_stepReals_38 : decode b6_stepReals 38 = .ok (.iconst 2, 1) := by decide +kernel
theorem d6_stepReals_39 : decode b6_stepReals 39 = .ok (.ireturn, 1) := by decide +kernel
theorem d6_stepReals_40 : decode b6_stepReals 40 = .ok (.iload_n 1, 1) := by decide +kernel
theorem d6_stepReals_41 : decode b6_stepReals 41 = .ok (.bipush 74, 2) := by decide +kernel
theorem d6_stepReals_43 : decode b6_stepReals 43 = .ok (.if_icmp .eq 9, 3) := by decide +kernel
theorem d6_stepReals_46 : decode b6_stepReals 46 = .ok (.iload_n 1, 1) := by decide +kernel
theorem d6_stepReals_47 : decode b6_stepReals 47 = .ok (.bipush 75, 2) := by decide +kernel
theorem d6_stepReals_49 : decode b6_stepReals 49 = .ok (.if_icmp .ne 42, 3) := by decide +kernel
theorem d6_stepReals_52 : decode b6_stepReals 52 = .ok (.aload_n 0, 1) := by decide +kernel
theorem d6_stepReals_53 : decode b6_stepReals 53 = .ok (.iload_n 1, 1) := by decide +kernel
theorem d6_stepReals_54 : decode b6_stepReals 54 = .ok (.bipush 74, 2) := by decide +kernel
theorem d6_stepReals_56 : decode b6_stepReals 56 = .ok (.if_icmp .ne 18, 3) := by decide +kernel
theorem d6_stepReals_59 : decode b6_stepReals 59 = .ok (.dload 4, 2) := by decide +kernel
theorem d6_stepReals_61 : decode b6_stepReals 61 = .ok (.dload_n 2, 1) := by decide +kernel
theorem d6_stepReals_62 : decode b6_stepReals 62 = .ok (.dcmp .l, 1) := by decide +kernel
theorem d6_stepReals_63 : decode b6_stepReals 63 = .ok (.ifCond .ne 7, 3) := by decide +kernel
theorem d6_stepReals_66 : decode b6_stepReals 66 = .ok (.iconst 1, 1) := by decide +kernel
theorem d6_stepReals_67 : decode b6_stepReals 67 = .ok (.goto 19, 3) := by decide +kernel
theorem d6_stepReals_70 : decode b6_stepReals 70 = .ok (.iconst 0, 1) := by decide +kernel
theorem d6_stepReals_71 : decode b6_stepReals 71 = .ok (.goto 15, 3) := by decide +kernel
theorem d6_stepReals_74 : decode b6_stepReals 74 = .ok (.dload 4, 2) := by decide +kernel
theorem d6_stepReals_76 : decode b6_stepReals 76 = .ok (.dload_n 2, 1) := by decide +kernel
theorem d6_stepReals_77 : decode b6_stepReals 77 = .ok (.dcmp .g, 1) := by decide +kernel
theorem d6_stepReals_78 : decode b6_stepReals 78 = .ok (.ifCond .ge 7, 3) := by decide +kernel
theorem d6_stepReals_81 : decode b6_stepReals 81 = .ok (.iconst 1, 1) := by decide +kernel
theorem d6_stepReals_82 : decode b6_stepReals 82 = .ok (.goto 4, 3) := by decide +kernel
theorem d6_stepReals_85 : decode b6_stepReals 85 = .ok (.iconst 0, 1) := by decide +kernel
theorem d6_stepReals_86 : decode b6_stepReals 86 = .ok (.invokevirtual 230, 3) := by decide +kernel
theorem d6_stepReals_89 : decode b6_stepReals 89 = .ok (.iconst 0, 1) := by decide +kernel
theorem d6_stepReals_90 : decode b6_stepReals 90 = .ok (.ireturn, 1) := by decide +kernel
theorem d6_stepReals_91 : decode b6_stepReals 91 = .ok (.iload_n 1, 1) := by decide +kernel
theorem d6_stepReals_92 : decode b6_stepReals 92 = .ok (.dload 4, 2) := by decide +kernel
theorem d6_stepReals_94 : decode b6_stepReals 94 = .ok (.dload_n 2, 1) := by decide +kernel
theorem d6_stepReals_95 : decode b6_stepReals 95 = .ok (.invokestatic 248, 3) := by decide +kernel
theorem d6_stepReals_98 : decode b6_stepReals 98 = .ok (.dstore 6, 2) := by decide +kernel
theorem d6_stepReals_100 : decode b6_stepReals 100 = .ok (.dload 6, 2) := by decide +kernel
theorem d6_stepReals_102 : decode b6_stepReals 102 = .ok (.ldc2_w 252, 3) := by decide +kernel
theorem d6_stepReals_105 : decode b6_stepReals 105 = .ok (.dcmp .l, 1) := by decide +kernel
theorem d6_stepReals_106 : decode b6_stepReals 106 = .ok (.ifCond .gt 12, 3) := by decide +kernel
theorem d6_stepReals_109 : decode b6_stepReals 109 = .ok (.dload 6, 2) := by decide +kernel
theorem d6_stepReals_111 : decode b6_stepReals 111 = .ok (.ldc2_w 254, 3) := by decide +kernel
theorem d6_stepReals_114 : decode b6_stepReals 114 = .ok (.dcmp .g, 1) := by decide +kernel
theorem d6_stepReals_115 : decode b6_stepReals 115 = .ok (.ifCond .ge 5, 3) := by decide +kernel
theorem d6_stepReals_118 : decode b6_stepReals 118 = .ok (.iconst 5, 1) := by decide +kernel
theorem d6_stepReals_119 : decode b6_stepReals 119 = .ok (.ireturn, 1) := by decide +kernel
theorem d6_stepReals_120 : decode b6_stepReals 120 = .ok (.aload_n 0, 1) := by decide +kernel
theorem d6_stepReals_121 : decode b6_stepReals 121 = .ok (.dload 6, 2) := by decide +kernel
theorem d6_stepReals_123 : decode b6_stepReals 123 = .ok (.invokevirtual 187, 3) := by decide +kernel
theorem d6_stepReals_126 : decode b6_stepReals 126 = .ok (.iconst 0, 1) := by decide +kernel
theorem d6_stepReals_127 : decode b6_stepReals 127 = .ok (.ireturn, 1) := by decide +kernel
theorem d6_ofReals_0 : decode b6_ofReals 0 = .ok (.iload_n 0, 1) := by decide +kernel
theorem d6_ofReals_1 : decode b6_ofReals 1 = .ok (.tableswitch 39 70 72 #[27, 31, 35], 27) := by decide +kernel
theorem d6_ofReals_28 : decode b6_ofReals 28 = .ok (.dload_n 1, 1) := by decide +kernel
theorem d6_ofReals_29 : decode b6_ofReals 29 = .ok (.dload_n 3, 1) := by decide +kernel
theorem d6_ofReals_30 : decode b6_ofReals 30 = .ok (.dadd, 1) := by decide +kernel
theorem d6_ofReals_31 : decode b6_ofReals 31 = .ok (.dreturn, 1) := by decide +kernel
theorem d6_ofReals_32 : decode b6_ofReals 32 = .ok (.dload_n 1, 1) := by decide +kernel
theorem d6_ofReals_33 : decode b6_ofReals 33 = .ok (.dload_n 3, 1) := by decide +kernel
theorem d6_ofReals_34 : decode b6_ofReals 34 = .ok (.dsub, 1) := by decide +kernel
theorem d6_ofReals_35 : decode b6_ofReals 35 = .ok (.dreturn, 1) := by decide +kernel
theorem d6_ofReals_36 : decode b6_ofReals 36 = .ok (.dload_n 1, 1) := by decide +kernel
theorem d6_ofReals_37 : decode b6_ofReals 37 = .ok (.dload_n 3, 1) := by decide +kernel
theorem d6_ofReals_38 : decode b6_ofReals 38 = .ok (.dmul, 1) := by decide +kernel
theorem d6_ofReals_39 : decode b6_ofReals 39 = .ok (.dreturn, 1) := by decide +kernel
theorem d6_ofReals_40 : decode b6_ofReals 40 = .ok (.dload_n 3, 1) := by decide +kernel
theorem d6_ofReals_41 : decode b6_ofReals 41 = .ok (.dconst 0, 1) := by decide +kernel
theorem d6_ofReals_42 : decode b6_ofReals 42 = .ok (.dcmp .l, 1) := by decide +kernel
theorem d6_ofReals_43 : decode b6_ofReals 43 = .ok (.ifCond .ne 7, 3) := by decide +kernel
theorem d6_ofReals_46 : decode b6_ofReals 46 = .ok (.dconst 0, 1) := by decide +kernel
theorem d6_ofReals_47 : decode b6_ofReals 47 = .ok (.goto 6, 3) := by decide +kernel
theorem d6_ofReals_50 : decode b6_ofReals 50 = .ok (.dload_n 1, 1) := by decide +kernel
theorem d6_ofReals_51 : decode b6_ofReals 51 = .ok (.dload_n 3, 1) := by decide +kernel
theorem d6_ofReals_52 : decode b6_ofReals 52 = .ok (.ddiv, 1) := by decide +kernel
theorem d6_ofReals_53 : decode b6_ofReals 53 = .ok (.dreturn, 1) := by decide +kernel
theorem d6_convert_0 : decode b6_convert 0 = .ok (.iload_n 1, 1) := by decide +kernel
theorem d6_convert_1 : decode b6_convert 1 = .ok (.tableswitch 83 80 85 #[39, 83, 51, 63, 51, 68], 39) := by decide +kernel
theorem d6_convert_40 : decode b6_convert 40 = .ok (.aload_n 0, 1) := by decide +kernel
theorem d6_convert_41 : decode b6_convert 41 = .ok (.aload_n 0, 1) := by decide +kernel
theorem d6_convert_42 : decode b6_convert 42 = .ok (.invokevirtual 135, 3) := by decide +kernel
theorem d6_convert_45 : decode b6_convert 45 = .ok (.i2l, 1) := by decide +kernel
theorem d6_convert_46 : decode b6_convert 46 = .ok (.invokevirtual 191, 3) := by decide +kernel
theorem d6_convert_49 : decode b6_convert 49 = .ok (.goto 35, 3) := by decide +kernel
theorem d6_convert_52 : decode b6_convert 52 = .ok (.aload_n 0, 1) := by decide +kernel
theorem d6_convert_53 : decode b6_convert 53 = .ok (.aload_n 0, 1) := by decide +kernel
theorem d6_convert_54 : decode b6_convert 54 = .ok (.invokevirtual 211, 3) := by decide +kernel
theorem d6_convert_57 : decode b6_convert 57 = .ok (.l2d, 1) := by decide +kernel
theorem d6_convert_58 : decode b6_convert 58 = .ok (.invokevirtual 187, 3) := by decide +kernel
theorem d6_convert_61 : decode b6_convert 61 = .ok (.goto 23, 3) := by decide +kernel
theorem d6_convert_64 : decode b6_convert 64 = .ok (.aload_n 0, 1) := by decide +kernel
theorem d6_convert_65 : decode b6_convert 65 = .ok (.invokestatic 256, 3) := by decide +kernel
theorem d6_convert_68 : decode b6_convert 68 = .ok (.ireturn, 1) := by decide +kernel
theorem d6_convert_69 : decode b6_convert 69 = .ok (.aload_n 0, 1) := by decide +kernel
theorem d6_convert_70 : decode b6_convert 70 = .ok (.aload_n 0, 1) := by decide +kernel
theorem d6_convert_71 : decode b6_convert 71 = .ok (.invokevirtual 211, 3) := by decide +kernel
theorem d6_convert_74 : decode b6_convert 74 = .ok (.ldc2_w 238, 3) := by decide +kernel
theorem d6_convert_77 : decode b6_convert 77 = .ok (.land, 1) := by decide +kernel
theorem d6_convert_78 : decode b6_convert 78 = .ok (.invokevirtual 191, 3) := by decide +kernel
theorem d6_convert_81 : decode b6_convert 81 = .ok (.goto 3, 3) := by decide +kernel
theorem d6_convert_84 : decode b6_convert 84 = .ok (.iconst 0, 1) := by decide +kernel
theorem d6_convert_85 : decode b6_convert 85 = .ok (.ireturn, 1) := by decide +kernel
theorem d6_cut_0 : decode b6_cut 0 = .ok (.aload_n 0, 1) := by decide +kernel
theorem d6_cut_1 : decode b6_cut 1 = .ok (.invokevirtual 244, 3) := by decide +kernel
theorem d6_cut_4 : decode b6_cut 4 = .ok (.dstore_n 1, 1) := by decide +kernel
theorem d6_cut_5 : decode b6_cut 5 = .ok (.dload_n 1, 1) := by decide +kernel
theorem d6_cut_6 : decode b6_cut 6 = .ok (.ldc2_w 260, 3) := by decide +kernel
theorem d6_cut_9 : decode b6_cut 9 = .ok (.dcmp .l, 1) := by decide +kernel
theorem d6_cut_10 : decode b6_cut 10 = .ok (.ifCond .ge 11, 3) := by decide +kernel
theorem d6_cut_13 : decode b6_cut 13 = .ok (.dload_n 1, 1) := by decide +kernel
theorem d6_cut_14 : decode b6_cut 14 = .ok (.ldc2_w 262, 3) := by decide +kernel
theorem d6_cut_17 : decode b6_cut 17 = .ok (.dcmp .g, 1) := by decide +kernel
theorem d6_cut_18 : decode b6_cut 18 = .ok (.ifCond .gt 5, 3) := by decide +kernel
theorem d6_cut_21 : decode b6_cut 21 = .ok (.iconst 5, 1) := by decide +kernel
theorem d6_cut_22 : decode b6_cut 22 = .ok (.ireturn, 1) := by decide +kernel
theorem d6_cut_23 : decode b6_cut 23 = .ok (.aload_n 0, 1) := by decide +kernel
theorem d6_cut_24 : decode b6_cut 24 = .ok (.dload_n 1, 1) := by decide +kernel
theorem d6_cut_25 : decode b6_cut 25 = .ok (.d2i, 1) := by decide +kernel
theorem d6_cut_26 : decode b6_cut 26 = .ok (.i2l, 1) := by decide +kernel
theorem d6_cut_27 : decode b6_cut 27 = .ok (.invokevirtual 191, 3) := by decide +kernel
theorem d6_cut_30 : decode b6_cut 30 = .ok (.iconst 0, 1) := by decide +kernel
theorem d6_cut_31 : decode b6_cut 31 = .ok (.ireturn, 1) := by decide +kernel
theorem d7_init_0 : decode b7_init 0 = .ok (.aload_n 0, 1) := by decide +kernel
theorem d7_init_1 : decode b7_init 1 = .ok (.invokespecial 1, 3) := by decide +kernel
theorem d7_init_4 : decode b7_init 4 = .ok (.aload_n 0, 1) := by decide +kernel
theorem d7_init_5 : decode b7_init 5 = .ok (.bipush 64, 2) := by decide +kernel
theorem d7_init_7 : decode b7_init 7 = .ok (.newarray .int, 2) := by decide +kernel
theorem d7_init_9 : decode b7_init 9 = .ok (.putfield 9, 3) := by decide +kernel
theorem d7_init_12 : decode b7_init 12 = .ok (.return_, 1) := by decide +kernel
theorem d7_byteAt_0 : decode b7_byteAt 0 = .ok (.iload_n 1, 1) := by decide +kernel
theorem d7_byteAt_1 : decode b7_byteAt 1 = .ok (.ifCond .lt 18, 3) := by decide +kernel
theorem d7_byteAt_4 : decode b7_byteAt 4 = .ok (.iload_n 1, 1) := by decide +kernel
theorem d7_byteAt_5 : decode b7_byteAt 5 = .ok (.bipush 64, 2) := by decide +kernel
theorem d7_byteAt_7 : decode b7_byteAt 7 = .ok (.if_icmp .ge 12, 3) := by decide +kernel
theorem d7_byteAt_10 : decode b7_byteAt 10 = .ok (.aload_n 0, 1) := by decide +kernel
theorem d7_byteAt_11 : decode b7_byteAt 11 = .ok (.getfield 9, 3) := by decide +kernel
theorem d7_byteAt_14 : decode b7_byteAt 14 = .ok (.iload_n 1, 1) := by decide +kernel
theorem d7_byteAt_15 : decode b7_byteAt 15 = .ok (.iaload, 1) := by decide +kernel
theorem d7_byteAt_16 : decode b7_byteAt 16 = .ok (.goto 4, 3) := by decide +kernel
theorem d7_byteAt_19 : decode b7_byteAt 19 = .ok (.iconst 0, 1) := by decide +kernel
theorem d7_byteAt_20 : decode b7_byteAt 20 = .ok (.ireturn, 1) := by decide +kernel
theorem d7_clear_0 : decode b7_clear 0 = .ok (.iconst 0, 1) := by decide +kernel
theorem d7_clear_1 : decode b7_clear 1 = .ok (.istore_n 1, 1) := by decide +kernel
theorem d7_clear_2 : decode b7_clear 2 = .ok (.iconst 0, 1) := by decide +kernel
theorem d7_clear_3 : decode b7_clear 3 = .ok (.istore_n 2, 1) := by decide +kernel
theorem d7_clear_4 : decode b7_clear 4 = .ok (.iload_n 2, 1) := by decide +kernel
theorem d7_clear_5 : decode b7_clear 5 = .ok (.bipush 64, 2) := by decide +kernel
theorem d7_clear_7 : decode b7_clear 7 = .ok (.if_icmp .ge 28, 3) := by decide +kernel
theorem d7_clear_10 : decode b7_clear 10 = .ok (.aload_n 0, 1) := by decide +kernel
theorem d7_clear_11 : decode b7_clear 11 = .ok (.getfield 9, 3) := by decide +kernel
theorem d7_clear_14 : decode b7_clear 14 = .ok (.iload_n 2, 1) := by decide +kernel
theorem d7_clear_15 : decode b7_clear 15 = .ok (.iaload, 1) := by decide +kernel
theorem d7_clear_16 : decode b7_clear 16 = .ok (.ifCond .eq 13, 3) := by decide +kernel
theorem d7_clear_19 : decode b7_clear 19 = .ok (.iinc 1 1, 3) := by decide +kernel
theorem d7_clear_22 : decode b7_clear 22 = .ok (.aload_n 0, 1) := by decide +kernel
theorem d7_clear_23 : decode b7_clear 23 = .ok (.getfield 9, 3) := by decide +kernel
theorem d7_clear_26 : decode b7_clear 26 = .ok (.iload_n 2, 1) := by decide +kernel
theorem d7_clear_27 : decode b7_clear 27 = .ok (.iconst 0, 1) := by decide +kernel
theorem d7_clear_28 : decode b7_clear 28 = .ok (.iastore, 1) := by decide +kernel
theorem d7_clear_29 : decode b7_clear 29 = .ok (.iinc 2 1, 3) := by decide +kernel
theorem d7_clear_32 : decode b7_clear 32 = .ok (.goto (-28), 3) := by decide +kernel
theorem d7_clear_35 : decode b7_clear 35 = .ok (.iload_n 1, 1) := by decide +kernel
theorem d7_clear_36 : decode b7_clear 36 = .ok (.ireturn, 1) := by decide +kernel
theorem d7_holds_0 : decode b7_holds 0 = .ok (.lload_n 1, 1) := by decide +kernel
theorem d7_holds_1 : decode b7_holds 1 = .ok (.lconst 0, 1) := by decide +kernel
theorem d7_holds_2 : decode b7_holds 2 = .ok (.lcmp, 1) := by decide +kernel
theorem d7_holds_3 : decode b7_holds 3 = .ok (.ifCond .lt 18, 3) := by decide +kernel
theorem d7_holds_6 : decode b7_holds 6 = .ok (.lload_n 1, 1) := by decide +kernel
theorem d7_holds_7 : decode b7_holds 7 = .ok (.iload_n 3, 1) := by decide +kernel
theorem d7_holds_8 : decode b7_holds 8 = .ok (.i2l, 1) := by decide +kernel
theorem d7_holds_9 : decode b7_holds 9 = .ok (.ladd, 1) := by decide +kernel
theorem d7_holds_10 : decode b7_holds 10 = .ok (.ldc2_w 13, 3) := by decide +kernel
theorem d7_holds_13 : decode b7_holds 13 = .ok (.lcmp, 1) := by decide +kernel
theorem d7_holds_14 : decode b7_holds 14 = .ok (.ifCond .gt 7, 3) := by decide +kernel
theorem d7_holds_17 : decode b7_holds 17 = .ok (.iconst 1, 1) := by decide +kernel
theorem d7_holds_18 : decode b7_holds 18 = .ok (.goto 4, 3) := by decide +kernel
theorem d7_holds_21 : decode b7_holds 21 = .ok (.iconst 0, 1) := by decide +kernel
theorem d7_holds_22 : decode b7_holds 22 = .ok (.ireturn, 1) := by decide +kernel
theorem d7_load_0 : decode b7_load 0 = .ok (.lconst 0, 1) := by decide +kernel
theorem d7_load_1 : decode b7_load 1 = .ok (.lstore_n 3, 1) := by decide +kernel
theorem d7_load_2 : decode b7_load 2 = .ok (.iload_n 2, 1) := by decide +kernel
theorem d7_load_3 : decode b7_load 3 = .ok (.iconst 1, 1) := by decide +kernel
theorem d7_load_4 : decode b7_load 4 = .ok (.isub, 1) := by decide +kernel
theorem d7_load_5 : decode b7_load 5 = .ok (.istore 5, 2) := by decide +kernel
theorem d7_load_7 : decode b7_load 7 = .ok (.iload 5, 2) := by decide +kernel
theorem d7_load_9 : decode b7_load 9 = .ok (.ifCond .lt 24, 3) := by decide +kernel
theorem d7_load_12 : decode b7_load 12 = .ok (.lload_n 3, 1) := by decide +kernel
theorem d7_load_13 : decode b7_load 13 = .ok (.bipush 8, 2) := by decide +kernel
theorem d7_load_15 : decode b7_load 15 = .ok (.lshl, 1) := by decide +kernel
theorem d7_load_16 : decode b7_load 16 = .ok (.aload_n 0, 1) := by decide +kernel
theorem d7_load_17 : decode b7_load 17 = .ok (.iload_n 1, 1) := by decide +kernel
theorem d7_load_18 : decode b7_load 18 = .ok (.iload 5, 2) := by decide +kernel
theorem d7_load_20 : decode b7_load 20 = .ok (.iadd, 1) := by decide +kernel
theorem d7_load_21 : decode b7_load 21 = .ok (.invokevirtual 15, 3) := by decide +kernel
theorem d7_load_24 : decode b7_load 24 = .ok (.i2l, 1) := by decide +kernel
theorem d7_load_25 : decode b7_load 25 = .ok (.lor, 1) := by decide +kernel
theorem d7_load_26 : decode b7_load 26 = .ok (.lstore_n 3, 1) := by decide +kernel
theorem d7_load_27 : decode b7_load 27 = .ok (.iinc 5 (-1), 3) := by decide +kernel
theorem d7_load_30 : decode b7_load 30 = .ok (.goto (-23), 3) := by decide +kernel
theorem d7_load_33 : decode b7_load 33 = .ok (.lload_n 3, 1) := by decide +kernel
theorem d7_load_34 : decode b7_load 34 = .ok (.lreturn, 1) := by decide +kernel
theorem d7_store_0 : decode b7_store 0 = .ok (.iconst 0, 1) := by decide +kernel
theorem d7_store_1 : decode b7_store 1 = .ok (.istore 5, 2) := by decide +kernel
theorem d7_store_3 : decode b7_store 3 = .ok (.iload 5, 2) := by decide +kernel
theorem d7_store_5 : decode b7_store 5 = .ok (.iload_n 2, 1) := by decide +kernel
theorem d7_store_6 : decode b7_store 6 = .ok (.if_icmp .ge 46, 3) := by decide +kernel
theorem d7_store_9 : decode b7_store 9 = .ok (.iload_n 1, 1) := by decide +kernel
theorem d7_store_10 : decode b7_store 10 = .ok (.iload 5, 2) := by decide +kernel
theorem d7_store_12 : decode b7_store 12 = .ok (.iadd, 1) := by decide +kernel
theorem d7_store_13 : decode b7_store 13 = .ok (.ifCond .lt 33, 3) := by decide +kernel
theorem d7_store_16 : decode b7_store 16 = .ok (.iload_n 1, 1) := by decide +kernel
theorem d7_store_17 : decode b7_store 17 = .ok (.iload 5, 2) := by decide +kernel
theorem d7_store_19 : decode b7_store 19 = .ok (.iadd, 1) := by decide +kernel
theorem d7_store_20 : decode b7_store 20 = .ok (.bipush 64, 2) := by decide +kernel
theorem d7_store_22 : decode b7_store 22 = .ok (.if_icmp .ge 24, 3) := by decide +kernel
theorem d7_store_25 : decode b7_store 25 = .ok (.aload_n 0, 1) := by decide +kernel
theorem d7_store_26 : decode b7_store 26 = .ok (.getfield 9, 3) := by decide +kernel
theorem d7_store_29 : decode b7_store 29 = .ok (.iload_n 1, 1) := by decide +kernel
theorem d7_store_30 : decode b7_store 30 = .ok (.iload 5, 2) := by decide +kernel
theorem d7_store_32 : decode b7_store 32 = .ok (.iadd, 1) := by decide +kernel
theorem d7_store_33 : decode b7_store 33 = .ok (.lload_n 3, 1) := by decide +kernel
theorem d7_store_34 : decode b7_store 34 = .ok (.bipush 8, 2) := by decide +kernel
theorem d7_store_36 : decode b7_store 36 = .ok (.iload 5, 2) := by decide +kernel
theorem d7_store_38 : decode b7_store 38 = .ok (.imul, 1) := by decide +kernel
theorem d7_store_39 : decode b7_store 39 = .ok (.lushr, 1) := by decide +kernel
theorem d7_store_40 : decode b7_store 40 = .ok (.l2i, 1) := by decide +kernel
theorem d7_store_41 : decode b7_store 41 = .ok (.sipush 255, 3) := by decide +kernel
theorem d7_store_44 : decode b7_store 44 = .ok (.iand, 1) := by decide +kernel
theorem d7_store_45 : decode b7_store 45 = .ok (.iastore, 1) := by decide +kernel
theorem d7_store_46 : decode b7_store 46 = .ok (.iinc 5 1, 3) := by decide +kernel
theorem d7_store_49 : decode b7_store 49 = .ok (.goto (-46), 3) := by decide +kernel
theorem d7_store_52 : decode b7_store 52 = .ok (.return_, 1) := by decide +kernel
theorem dL_shape_0 : decode bL_shape 0 = .ok (.aload 5, 2) := by decide +kernel
theorem dL_shape_2 : decode bL_shape 2 = .ok (.iconst 0, 1) := by decide +kernel
theorem dL_shape_3 : decode bL_shape 3 = .ok (.aload_n 0, 1) := by decide +kernel
theorem dL_shape_4 : decode bL_shape 4 = .ok (.iload_n 1, 1) := by decide +kernel
theorem dL_shape_5 : decode bL_shape 5 = .ok (.iload_n 2, 1) := by decide +kernel
theorem dL_shape_6 : decode bL_shape 6 = .ok (.iload_n 3, 1) := by decide +kernel
theorem dL_shape_7 : decode bL_shape 7 = .ok (.iload 4, 2) := by decide +kernel
theorem dL_shape_9 : decode bL_shape 9 = .ok (.invokevirtual 7, 3) := by decide +kernel
theorem dL_shape_12 : decode bL_shape 12 = .ok (.i2l, 1) := by decide +kernel
theorem dL_shape_13 : decode bL_shape 13 = .ok (.lastore, 1) := by decide +kernel
theorem dL_shape_14 : decode bL_shape 14 = .ok (.goto 11, 3) := by decide +kernel
theorem dL_shape_17 : decode bL_shape 17 = .ok (.astore 6, 2) := by decide +kernel
theorem dL_shape_19 : decode bL_shape 19 = .ok (.iconst 1, 1) := by decide +kernel
theorem dL_shape_20 : decode bL_shape 20 = .ok (.ireturn, 1) := by decide +kernel
theorem dL_shape_21 : decode bL_shape 21 = .ok (.astore 6, 2) := by decide +kernel
theorem dL_shape_23 : decode bL_shape 23 = .ok (.iconst 2, 1) := by decide +kernel
theorem dL_shape_24 : decode bL_shape 24 = .ok (.ireturn, 1) := by decide +kernel
theorem dL_shape_25 : decode bL_shape 25 = .ok (.iconst 0, 1) := by decide +kernel
theorem dL_shape_26 : decode bL_shape 26 = .ok (.ireturn, 1) := by decide +kernel
theorem dL_code_0 : decode bL_code 0 = .ok (.aload 5, 2) := by decide +kernel
theorem dL_code_2 : decode bL_code 2 = .ok (.iconst 0, 1) := by decide +kernel
theorem dL_code_3 : decode bL_code 3 = .ok (.aload_n 0, 1) := by decide +kernel
theorem dL_code_4 : decode bL_code 4 = .ok (.iload_n 1, 1) := by decide +kernel
theorem dL_code_5 : decode bL_code 5 = .ok (.lload_n 2, 1) := by decide +kernel
theorem dL_code_6 : decode bL_code 6 = .ok (.iload 4, 2) := by decide +kernel
theorem dL_code_8 : decode bL_code 8 = .ok (.invokevirtual 17, 3) := by decide +kernel
theorem dL_code_11 : decode bL_code 11 = .ok (.i2l, 1) := by decide +kernel
theorem dL_code_12 : decode bL_code 12 = .ok (.lastore, 1) := by decide +kernel
theorem dL_code_13 : decode bL_code 13 = .ok (.goto 15, 3) := by decide +kernel
theorem dL_code_16 : decode bL_code 16 = .ok (.astore 6, 2) := by decide +kernel
theorem dL_code_18 : decode bL_code 18 = .ok (.iconst 1, 1) := by decide +kernel
theorem dL_code_19 : decode bL_code 19 = .ok (.ireturn, 1) := by decide +kernel
theorem dL_code_20 : decode bL_code 20 = .ok (.astore 6, 2) := by decide +kernel
theorem dL_code_22 : decode bL_code 22 = .ok (.iconst 2, 1) := by decide +kernel
theorem dL_code_23 : decode bL_code 23 = .ok (.ireturn, 1) := by decide +kernel
theorem dL_code_24 : decode bL_code 24 = .ok (.astore 6, 2) := by decide +kernel
theorem dL_code_26 : decode bL_code 26 = .ok (.iconst 3, 1) := by decide +kernel
theorem dL_code_27 : decode bL_code 27 = .ok (.ireturn, 1) := by decide +kernel
theorem dL_code_28 : decode bL_code 28 = .ok (.iconst 0, 1) := by decide +kernel
theorem dL_code_29 : decode bL_code 29 = .ok (.ireturn, 1) := by decide +kernel
theorem dL_table_0 : decode bL_table 0 = .ok (.aload_n 3, 1) := by decide +kernel
theorem dL_table_1 : decode bL_table 1 = .ok (.iconst 0, 1) := by decide +kernel
theorem dL_table_2 : decode bL_table 2 = .ok (.aload_n 0, 1) := by decide +kernel
theorem dL_table_3 : decode bL_table 3 = .ok (.iload_n 1, 1) := by decide +kernel
theorem dL_table_4 : decode bL_table 4 = .ok (.iload_n 2, 1) := by decide +kernel
theorem dL_table_5 : decode bL_table 5 = .ok (.invokevirtual 23, 3) := by decide +kernel
theorem dL_table_8 : decode bL_table 8 = .ok (.i2l, 1) := by decide +kernel
theorem dL_table_9 : decode bL_table 9 = .ok (.lastore, 1) := by decide +kernel
theorem dL_table_10 : decode bL_table 10 = .ok (.goto 7, 3) := by decide +kernel
theorem dL_table_13 : decode bL_table 13 = .ok (.astore 4, 2) := by decide +kernel
theorem dL_table_15 : decode bL_table 15 = .ok (.iconst 1, 1) := by decide +kernel
theorem dL_table_16 : decode bL_table 16 = .ok (.ireturn, 1) := by decide +kernel
theorem dL_table_17 : decode bL_table 17 = .ok (.iconst 0, 1) := by decide +kernel
theorem dL_table_18 : decode bL_table 18 = .ok (.ireturn, 1) := by decide +kernel
theorem dL_check_0 : decode bL_check 0 = .ok (.aload_n 1, 1) := by decide +kernel
theorem dL_check_1 : decode bL_check 1 = .ok (.iconst 0, 1) := by decide +kernel
theorem dL_check_2 : decode bL_check 2 = .ok (.aload_n 0, 1) := by decide +kernel
theorem dL_check_3 : decode bL_check 3 = .ok (.invokevirtual 27, 3) := by decide +kernel
theorem dL_check_6 : decode bL_check 6 = .ok (.i2l, 1) := by decide +kernel
theorem dL_check_7 : decode bL_check 7 = .ok (.lastore, 1) := by decide +kernel
theorem dL_check_8 : decode bL_check 8 = .ok (.goto 9, 3) := by decide +kernel
theorem dL_check_11 : decode bL_check 11 = .ok (.astore_n 2, 1) := by decide +kernel
theorem dL_check_12 : decode bL_check 12 = .ok (.iconst 1, 1) := by decide +kernel
theorem dL_check_13 : decode bL_check 13 = .ok (.ireturn, 1) := by decide +kernel
theorem dL_check_14 : decode bL_check 14 = .ok (.astore_n 2, 1) := by decide +kernel
theorem dL_check_15 : decode bL_check 15 = .ok (.iconst 2, 1) := by decide +kernel
theorem dL_check_16 : decode bL_check 16 = .ok (.ireturn, 1) := by decide +kernel
theorem dL_check_17 : decode bL_check 17 = .ok (.iconst 0, 1) := by decide +kernel
theorem dL_check_18 : decode bL_check 18 = .ok (.ireturn, 1) := by decide +kernel
theorem dL_fault_0 : decode bL_fault 0 = .ok (.aload_n 2, 1) := by decide +kernel
theorem dL_fault_1 : decode bL_fault 1 = .ok (.iconst 0, 1) := by decide +kernel
theorem dL_fault_2 : decode bL_fault 2 = .ok (.aload_n 0, 1) := by decide +kernel
theorem dL_fault_3 : decode bL_fault 3 = .ok (.iload_n 1, 1) := by decide +kernel
theorem dL_fault_4 : decode bL_fault 4 = .ok (.invokevirtual 33, 3) := by decide +kernel
theorem dL_fault_7 : decode bL_fault 7 = .ok (.i2l, 1) := by decide +kernel
theorem dL_fault_8 : decode bL_fault 8 = .ok (.lastore, 1) := by decide +kernel
theorem dL_fault_9 : decode bL_fault 9 = .ok (.goto 6, 3) := by decide +kernel
theorem dL_fault_12 : decode bL_fault 12 = .ok (.astore_n 3, 1) := by decide +kernel
theorem dL_fault_13 : decode bL_fault 13 = .ok (.iconst 1, 1) := by decide +kernel
theorem dL_fault_14 : decode bL_fault 14 = .ok (.ireturn, 1) := by decide +kernel
theorem dL_fault_15 : decode bL_fault 15 = .ok (.iconst 0, 1) := by decide +kernel
theorem dL_fault_16 : decode bL_fault 16 = .ok (.ireturn, 1) := by decide +kernel
theorem dL_argue_0 : decode bL_argue 0 = .ok (.aload_n 2, 1) := by decide +kernel
theorem dL_argue_1 : decode bL_argue 1 = .ok (.iconst 0, 1) := by decide +kernel
theorem dL_argue_2 : decode bL_argue 2 = .ok (.aload_n 0, 1) := by decide +kernel
theorem dL_argue_3 : decode bL_argue 3 = .ok (.iload_n 1, 1) := by decide +kernel
theorem dL_argue_4 : decode bL_argue 4 = .ok (.invokevirtual 37, 3) := by decide +kernel
theorem dL_argue_7 : decode bL_argue 7 = .ok (.i2l, 1) := by decide +kernel
theorem dL_argue_8 : decode bL_argue 8 = .ok (.lastore, 1) := by decide +kernel
theorem dL_argue_9 : decode bL_argue 9 = .ok (.goto 6, 3) := by decide +kernel
theorem dL_argue_12 : decode bL_argue 12 = .ok (.astore_n 3, 1) := by decide +kernel
theorem dL_argue_13 : decode bL_argue 13 = .ok (.iconst 1, 1) := by decide +kernel
theorem dL_argue_14 : decode bL_argue 14 = .ok (.ireturn, 1) := by decide +kernel
theorem dL_argue_15 : decode bL_argue 15 = .ok (.iconst 0, 1) := by decide +kernel
theorem dL_argue_16 : decode bL_argue 16 = .ok (.ireturn, 1) := by decide +kernel
theorem dL_start_0 : decode bL_start 0 = .ok (.aload_n 2, 1) := by decide +kernel
theorem dL_start_1 : decode bL_start 1 = .ok (.iconst 0, 1) := by decide +kernel
theorem dL_start_2 : decode bL_start 2 = .ok (.aload_n 0, 1) := by decide +kernel
theorem dL_start_3 : decode bL_start 3 = .ok (.iload_n 1, 1) := by decide +kernel
theorem dL_start_4 : decode bL_start 4 = .ok (.invokevirtual 40, 3) := by decide +kernel
theorem dL_start_7 : decode bL_start 7 = .ok (.i2l, 1) := by decide +kernel
theorem dL_start_8 : decode bL_start 8 = .ok (.lastore, 1) := by decide +kernel
theorem dL_start_9 : decode bL_start 9 = .ok (.goto 12, 3) := by decide +kernel
theorem dL_start_12 : decode bL_start 12 = .ok (.astore_n 3, 1) := by decide +kernel
theorem dL_start_13 : decode bL_start 13 = .ok (.iconst 1, 1) := by decide +kernel
theorem dL_start_14 : decode bL_start 14 = .ok (.ireturn, 1) := by decide +kernel
theorem dL_start_15 : decode bL_start 15 = .ok (.astore_n 3, 1) := by decide +kernel
theorem dL_start_16 : decode bL_start 16 = .ok (.iconst 2, 1) := by decide +kernel
theorem dL_start_17 : decode bL_start 17 = .ok (.ireturn, 1) := by decide +kernel
theorem dL_start_18 : decode bL_start 18 = .ok (.astore_n 3, 1) := by decide +kernel
theorem dL_start_19 : decode bL_start 19 = .ok (.iconst 3, 1) := by decide +kernel
theorem dL_start_20 : decode bL_start 20 = .ok (.ireturn, 1) := by decide +kernel
theorem dL_start_21 : decode bL_start 21 = .ok (.iconst 0, 1) := by decide +kernel
theorem dL_start_22 : decode bL_start 22 = .ok (.ireturn, 1) := by decide +kernel
theorem dL_run_0 : decode bL_run 0 = .ok (.aload_n 2, 1) := by decide +kernel
theorem dL_run_1 : decode bL_run 1 = .ok (.iconst 0, 1) := by decide +kernel
theorem dL_run_2 : decode bL_run 2 = .ok (.aload_n 0, 1) := by decide +kernel
theorem dL_run_3 : decode bL_run 3 = .ok (.iload_n 1, 1) := by decide +kernel
theorem dL_run_4 : decode bL_run 4 = .ok (.invokevirtual 43, 3) := by decide +kernel
theorem dL_run_7 : decode bL_run 7 = .ok (.i2l, 1) := by decide +kernel
theorem dL_run_8 : decode bL_run 8 = .ok (.lastore, 1) := by decide +kernel
theorem dL_run_9 : decode bL_run 9 = .ok (.goto 26, 3) := by decide +kernel
theorem dL_run_12 : decode bL_run 12 = .ok (.astore_n 3, 1) := by decide +kernel
theorem dL_run_13 : decode bL_run 13 = .ok (.iconst 1, 1) := by decide +kernel
theorem dL_run_14 : decode bL_run 14 = .ok (.ireturn, 1) := by decide +kernel
theorem dL_run_15 : decode bL_run 15 = .ok (.astore_n 3, 1) := by decide +kernel
theorem dL_run_16 : decode bL_run 16 = .ok (.iconst 2, 1) := by decide +kernel
theorem dL_run_17 : decode bL_run 17 = .ok (.ireturn, 1) := by decide +kernel
theorem dL_run_18 : decode bL_run 18 = .ok (.astore_n 3, 1) := by decide +kernel
theorem dL_run_19 : decode bL_run 19 = .ok (.iconst 3, 1) := by decide +kernel
theorem dL_run_20 : decode bL_run 20 = .ok (.ireturn, 1) := by decide +kernel
theorem dL_run_21 : decode bL_run 21 = .ok (.astore_n 3, 1) := by decide +kernel
theorem dL_run_22 : decode bL_run 22 = .ok (.iconst 4, 1) := by decide +kernel
theorem dL_run_23 : decode bL_run 23 = .ok (.ireturn, 1) := by decide +kernel
theorem dL_run_24 : decode bL_run 24 = .ok (.astore_n 3, 1) := by decide +kernel
theorem dL_run_25 : decode bL_run 25 = .ok (.iconst 5, 1) := by decide +kernel
theorem dL_run_26 : decode bL_run 26 = .ok (.ireturn, 1) := by decide +kernel
theorem dL_run_27 : decode bL_run 27 = .ok (.astore_n 3, 1) := by decide +kernel
theorem dL_run_28 : decode bL_run 28 = .ok (.bipush 6, 2) := by decide +kernel
theorem dL_run_30 : decode bL_run 30 = .ok (.ireturn, 1) := by decide +kernel
theorem dL_run_31 : decode bL_run 31 = .ok (.astore_n 3, 1) := by decide +kernel
theorem dL_run_32 : decode bL_run 32 = .ok (.bipush 7, 2) := by decide +kernel
theorem dL_run_34 : decode bL_run 34 = .ok (.ireturn, 1) := by decide +kernel
theorem dL_run_35 : decode bL_run 35 = .ok (.iconst 0, 1) := by decide +kernel
theorem dL_run_36 : decode bL_run 36 = .ok (.ireturn, 1) := by decide +kernel
theorem dL_stop_0 : decode bL_stop 0 = .ok (.aload_n 1, 1) := by decide +kernel
theorem dL_stop_1 : decode bL_stop 1 = .ok (.iconst 0, 1) := by decide +kernel
theorem dL_stop_2 : decode bL_stop 2 = .ok (.aload_n 0, 1) := by decide +kernel
theorem dL_stop_3 : decode bL_stop 3 = .ok (.invokevirtual 52, 3) := by decide +kernel
theorem dL_stop_6 : decode bL_stop 6 = .ok (.i2l, 1) := by decide +kernel
theorem dL_stop_7 : decode bL_stop 7 = .ok (.lastore, 1) := by decide +kernel
theorem dL_stop_8 : decode bL_stop 8 = .ok (.goto 6, 3) := by decide +kernel
theorem dL_stop_11 : decode bL_stop 11 = .ok (.astore_n 2, 1) := by decide +kernel
theorem dL_stop_12 : decode bL_stop 12 = .ok (.iconst 1, 1) := by decide +kernel
theorem dL_stop_13 : decode bL_stop 13 = .ok (.ireturn, 1) := by decide +kernel
theorem dL_stop_14 : decode bL_stop 14 = .ok (.iconst 0, 1) := by decide +kernel
theorem dL_stop_15 : decode bL_stop 15 = .ok (.ireturn, 1) := by decide +kernel
theorem dL_result_0 : decode bL_result 0 = .ok (.aload_n 1, 1) := by decide +kernel
theorem dL_result_1 : decode bL_result 1 = .ok (.iconst 0, 1) := by decide +kernel
theorem dL_result_2 : decode bL_result 2 = .ok (.aload_n 0, 1) := by decide +kernel
theorem dL_result_3 : decode bL_result 3 = .ok (.invokevirtual 55, 3) := by decide +kernel
theorem dL_result_6 : decode bL_result 6 = .ok (.lastore, 1) := by decide +kernel
theorem dL_result_7 : decode bL_result 7 = .ok (.goto 9, 3) := by decide +kernel
theorem dL_result_10 : decode bL_result 10 = .ok (.astore_n 2, 1) := by decide +kernel
theorem dL_result_11 : decode bL_result 11 = .ok (.iconst 1, 1) := by decide +kernel
theorem dL_result_12 : decode bL_result 12 = .ok (.ireturn, 1) := by decide +kernel
theorem dL_result_13 : decode bL_result 13 = .ok (.astore_n 2, 1) := by decide +kernel
theorem dL_result_14 : decode bL_result 14 = .ok (.iconst 2, 1) := by decide +kernel
theorem dL_result_15 : decode bL_result 15 = .ok (.ireturn, 1) := by decide +kernel
theorem dL_result_16 : decode bL_result 16 = .ok (.iconst 0, 1) := by decide +kernel
theorem dL_result_17 : decode bL_result 17 = .ok (.ireturn, 1) := by decide +kernel
theorem dL_real_0 : decode bL_real 0 = .ok (.aload_n 1, 1) := by decide +kernel
theorem dL_real_1 : decode bL_real 1 = .ok (.iconst 0, 1) := by decide +kernel
theorem dL_real_2 : decode bL_real 2 = .ok (.aload_n 0, 1) := by decide +kernel
theorem dL_real_3 : decode bL_real 3 = .ok (.invokevirtual 59, 3) := by decide +kernel
theorem dL_real_6 : decode bL_real 6 = .ok (.dastore, 1) := by decide +kernel
theorem dL_real_7 : decode bL_real 7 = .ok (.goto 9, 3) := by decide +kernel
theorem dL_real_10 : decode bL_real 10 = .ok (.astore_n 2, 1) := by decide +kernel
theorem dL_real_11 : decode bL_real 11 = .ok (.iconst 1, 1) := by decide +kernel
theorem dL_real_12 : decode bL_real 12 = .ok (.ireturn, 1) := by decide +kernel
theorem dL_real_13 : decode bL_real 13 = .ok (.astore_n 2, 1) := by decide +kernel
theorem dL_real_14 : decode bL_real 14 = .ok (.iconst 2, 1) := by decide +kernel
theorem dL_real_15 : decode bL_real 15 = .ok (.ireturn, 1) := by decide +kernel
theorem dL_real_16 : decode bL_real 16 = .ok (.iconst 0, 1) := by decide +kernel
theorem dL_real_17 : decode bL_real 17 = .ok (.ireturn, 1) := by decide +kernel
theorem dL_global_0 : decode bL_global 0 = .ok (.aload_n 2, 1) := by decide +kernel
theorem dL_global_1 : decode bL_global 1 = .ok (.iconst 0, 1) := by decide +kernel
theorem dL_global_2 : decode bL_global 2 = .ok (.aload_n 0, 1) := by decide +kernel
theorem dL_global_3 : decode bL_global 3 = .ok (.iload_n 1, 1) := by decide +kernel
theorem dL_global_4 : decode bL_global 4 = .ok (.invokevirtual 63, 3) := by decide +kernel
theorem dL_global_7 : decode bL_global 7 = .ok (.lastore, 1) := by decide +kernel
theorem dL_global_8 : decode bL_global 8 = .ok (.goto 6, 3) := by decide +kernel
theorem dL_global_11 : decode bL_global 11 = .ok (.astore_n 3, 1) := by decide +kernel
theorem dL_global_12 : decode bL_global 12 = .ok (.iconst 1, 1) := by decide +kernel
theorem dL_global_13 : decode bL_global 13 = .ok (.ireturn, 1) := by decide +kernel
theorem dL_global_14 : decode bL_global 14 = .ok (.iconst 0, 1) := by decide +kernel
theorem dL_global_15 : decode bL_global 15 = .ok (.ireturn, 1) := by decide +kernel
theorem dL_memory_0 : decode bL_memory 0 = .ok (.aload_n 2, 1) := by decide +kernel
theorem dL_memory_1 : decode bL_memory 1 = .ok (.iconst 0, 1) := by decide +kernel
theorem dL_memory_2 : decode bL_memory 2 = .ok (.aload_n 0, 1) := by decide +kernel
theorem dL_memory_3 : decode bL_memory 3 = .ok (.iload_n 1, 1) := by decide +kernel
theorem dL_memory_4 : decode bL_memory 4 = .ok (.invokevirtual 67, 3) := by decide +kernel
theorem dL_memory_7 : decode bL_memory 7 = .ok (.i2l, 1) := by decide +kernel
theorem dL_memory_8 : decode bL_memory 8 = .ok (.lastore, 1) := by decide +kernel
theorem dL_memory_9 : decode bL_memory 9 = .ok (.goto 6, 3) := by decide +kernel
theorem dL_memory_12 : decode bL_memory 12 = .ok (.astore_n 3, 1) := by decide +kernel
theorem dL_memory_13 : decode bL_memory 13 = .ok (.iconst 1, 1) := by decide +kernel
theorem dL_memory_14 : decode bL_memory 14 = .ok (.ireturn, 1) := by decide +kernel
theorem dL_memory_15 : decode bL_memory 15 = .ok (.iconst 0, 1) := by decide +kernel
theorem dL_memory_16 : decode bL_memory 16 = .ok (.ireturn, 1) := by decide +kernel
theorem dL_wipe_0 : decode bL_wipe 0 = .ok (.aload_n 1, 1) := by decide +kernel
theorem dL_wipe_1 : decode bL_wipe 1 = .ok (.iconst 0, 1) := by decide +kernel
theorem dL_wipe_2 : decode bL_wipe 2 = .ok (.aload_n 0, 1) := by decide +kernel
theorem dL_wipe_3 : decode bL_wipe 3 = .ok (.invokevirtual 70, 3) := by decide +kernel
theorem dL_wipe_6 : decode bL_wipe 6 = .ok (.i2l, 1) := by decide +kernel
theorem dL_wipe_7 : decode bL_wipe 7 = .ok (.lastore, 1) := by decide +kernel
theorem dL_wipe_8 : decode bL_wipe 8 = .ok (.goto 6, 3) := by decide +kernel
theorem dL_wipe_11 : decode bL_wipe 11 = .ok (.astore_n 2, 1) := by decide +kernel
theorem dL_wipe_12 : decode bL_wipe 12 = .ok (.iconst 1, 1) := by decide +kernel
theorem dL_wipe_13 : decode bL_wipe 13 = .ok (.ireturn, 1) := by decide +kernel
theorem dL_wipe_14 : decode bL_wipe 14 = .ok (.iconst 0, 1) := by decide +kernel
theorem dL_wipe_15 : decode bL_wipe 15 = .ok (.ireturn, 1) := by decide +kernel
theorem dL_count_0 : decode bL_count 0 = .ok (.aload_n 2, 1) := by decide +kernel
theorem dL_count_1 : decode bL_count 1 = .ok (.iconst 0, 1) := by decide +kernel
theorem dL_count_2 : decode bL_count 2 = .ok (.aload_n 0, 1) := by decide +kernel
theorem dL_count_3 : decode bL_count 3 = .ok (.iload_n 1, 1) := by decide +kernel
theorem dL_count_4 : decode bL_count 4 = .ok (.invokevirtual 73, 3) := by decide +kernel
theorem dL_count_7 : decode bL_count 7 = .ok (.i2l, 1) := by decide +kernel
theorem dL_count_8 : decode bL_count 8 = .ok (.lastore, 1) := by decide +kernel
theorem dL_count_9 : decode bL_count 9 = .ok (.goto 6, 3) := by decide +kernel
theorem dL_count_12 : decode bL_count 12 = .ok (.astore_n 3, 1) := by decide +kernel
theorem dL_count_13 : decode bL_count 13 = .ok (.iconst 1, 1) := by decide +kernel
theorem dL_count_14 : decode bL_count 14 = .ok (.ireturn, 1) := by decide +kernel
theorem dL_count_15 : decode bL_count 15 = .ok (.iconst 0, 1) := by decide +kernel
theorem dL_count_16 : decode bL_count 16 = .ok (.ireturn, 1) := by decide +kernel
theorem dL_law_0 : decode bL_law 0 = .ok (.new 8, 3) := by decide +kernel
theorem dL_law_3 : decode bL_law 3 = .ok (.dup, 1) := by decide +kernel
theorem dL_law_4 : decode bL_law 4 = .ok (.invokespecial 76, 3) := by decide +kernel
theorem dL_law_7 : decode bL_law 7 = .ok (.astore_n 1, 1) := by decide +kernel
theorem dL_law_8 : decode bL_law 8 = .ok (.new 77, 3) := by decide +kernel
theorem dL_law_11 : decode bL_law 11 = .ok (.dup, 1) := by decide +kernel
theorem dL_law_12 : decode bL_law 12 = .ok (.invokespecial 79, 3) := by decide +kernel
theorem dL_law_15 : decode bL_law 15 = .ok (.astore_n 2, 1) := by decide +kernel
theorem dL_law_16 : decode bL_law 16 = .ok (.iconst 1, 1) := by decide +kernel
theorem dL_law_17 : decode bL_law 17 = .ok (.newarray .long, 2) := by decide +kernel
theorem dL_law_19 : decode bL_law 19 = .ok (.astore_n 3, 1) := by decide +kernel
theorem dL_law_20 : decode bL_law 20 = .ok (.iconst 1, 1) := by decide +kernel
theorem dL_law_21 : decode bL_law 21 = .ok (.newarray .double, 2) := by decide +kernel
theorem dL_law_23 : decode bL_law 23 = .ok (.astore 4, 2) := by decide +kernel
theorem dL_law_25 : decode bL_law 25 = .ok (.iconst 0, 1) := by decide +kernel
theorem dL_law_26 : decode bL_law 26 = .ok (.istore 5, 2) := by decide +kernel
theorem dL_law_28 : decode bL_law 28 = .ok (.iload 5, 2) := by decide +kernel
theorem dL_law_30 : decode bL_law 30 = .ok (.aload_n 0, 1) := by decide +kernel
theorem dL_law_31 : decode bL_law 31 = .ok (.arraylength, 1) := by decide +kernel
theorem dL_law_32 : decode bL_law 32 = .ok (.iconst 5, 1) := by decide +kernel
theorem dL_law_33 : decode bL_law 33 = .ok (.isub, 1) := by decide +kernel
theorem dL_law_34 : decode bL_law 34 = .ok (.if_icmp .gt 1040, 3) := by decide +kernel
theorem dL_law_37 : decode bL_law 37 = .ok (.aload_n 0, 1) := by decide +kernel
theorem dL_law_38 : decode bL_law 38 = .ok (.iload 5, 2) := by decide +kernel
theorem dL_law_40 : decode bL_law 40 = .ok (.iaload, 1) := by decide +kernel
theorem dL_law_41 : decode bL_law 41 = .ok (.bipush 15, 2) := by decide +kernel
theorem dL_law_43 : decode bL_law 43 = .ok (.iand, 1) := by decide +kernel
theorem dL_law_44 : decode bL_law 44 = .ok (.tableswitch 1024 0 15 #[80, 172, 284, 352, 396, 452, 508, 564, 620, 664, 707, 772, 827, 868, 924, 968], 80) := by decide +kernel
theorem dL_law_124 : decode bL_law 124 = .ok (.aload_n 1, 1) := by decide +kernel
theorem dL_law_125 : decode bL_law 125 = .ok (.aload_n 0, 1) := by decide +kernel
theorem dL_law_126 : decode bL_law 126 = .ok (.iload 5, 2) := by decide +kernel
theorem dL_law_128 : decode bL_law 128 = .ok (.iconst 1, 1) := by decide +kernel
theorem dL_law_129 : decode bL_law 129 = .ok (.iadd, 1) := by decide +kernel
theorem dL_law_130 : decode bL_law 130 = .ok (.iaload, 1) := by decide +kernel
theorem dL_law_131 : decode bL_law 131 = .ok (.aload_n 0, 1) := by decide +kernel
theorem dL_law_132 : decode bL_law 132 = .ok (.iload 5, 2) := by decide +kernel
theorem dL_law_134 : decode bL_law 134 = .ok (.iconst 2, 1) := by decide +kernel
theorem dL_law_135 : decode bL_law 135 = .ok (.iadd, 1) := by decide +kernel
theorem dL_law_136 : decode bL_law 136 = .ok (.iaload, 1) := by decide +kernel
theorem dL_law_137 : decode bL_law 137 = .ok (.aload_n 0, 1) := by decide +kernel
theorem dL_law_138 : decode bL_law 138 = .ok (.iload 5, 2) := by decide +kernel
theorem dL_law_140 : decode bL_law 140 = .ok (.iconst 3, 1) := by decide +kernel
theorem dL_law_141 : decode bL_law 141 = .ok (.iadd, 1) := by decide +kernel
theorem dL_law_142 : decode bL_law 142 = .ok (.iaload, 1) := by decide +kernel
theorem dL_law_143 : decode bL_law 143 = .ok (.aload_n 0, 1) := by decide +kernel
theorem dL_law_144 : decode bL_law 144 = .ok (.iload 5, 2) := by decide +kernel
theorem dL_law_146 : decode bL_law 146 = .ok (.iconst 4, 1) := by decide +kernel
theorem dL_law_147 : decode bL_law 147 = .ok (.iadd, 1) := by decide +kernel
theorem dL_law_148 : decode bL_law 148 = .ok (.iaload, 1) := by decide +kernel
theorem dL_law_149 : decode bL_law 149 = .ok (.aload_n 3, 1) := by decide +kernel
theorem dL_law_150 : decode bL_law 150 = .ok (.invokestatic 80, 3) := by decide +kernel
theorem dL_law_153 : decode bL_law 153 = .ok (.istore 6, 2) := by decide +kernel
theorem dL_law_155 : decode bL_law 155 = .ok (.aload_n 2, 1) := by decide +kernel
theorem dL_law_156 : decode bL_law 156 = .ok (.aload_n 0, 1) := by decide +kernel
theorem dL_law_157 : decode bL_law 157 = .ok (.iload 5, 2) := by decide +kernel
theorem dL_law_159 : decode bL_law 159 = .ok (.iconst 1, 1) := by decide +kernel
theorem dL_law_160 : decode bL_law 160 = .ok (.iadd, 1) := by decide +kernel
theorem dL_law_161 : decode bL_law 161 = .ok (.iaload, 1) := by decide +kernel
theorem dL_law_162 : decode bL_law 162 = .ok (.aload_n 0, 1) := by decide +kernel
theorem dL_law_163 : decode bL_law 163 = .ok (.iload 5, 2) := by decide +kernel
theorem dL_law_165 : decode bL_law 165 = .ok (.iconst 2, 1) := by decide +kernel
theorem dL_law_166 : decode bL_law 166 = .ok (.iadd, 1) := by decide +kernel
theorem dL_law_167 : decode bL_law 167 = .ok (.iaload, 1) := by decide +kernel
theorem dL_law_168 : decode bL_law 168 = .ok (.aload_n 0, 1) := by decide +kernel
theorem dL_law_169 : decode bL_law 169 = .ok (.iload 5, 2) := by decide +kernel
theorem dL_law_171 : decode bL_law 171 = .ok (.iconst 3, 1) := by decide +kernel
theorem dL_law_172 : decode bL_law 172 = .ok (.iadd, 1) := by decide +kernel
theorem dL_law_173 : decode bL_law 173 = .ok (.iaload, 1) := by decide +kernel
theorem dL_law_174 : decode bL_law 174 = .ok (.aload_n 0, 1) := by decide +kernel
theorem dL_law_175 : decode bL_law 175 = .ok (.iload 5, 2) := by decide +kernel
theorem dL_law_177 : decode bL_law 177 = .ok (.iconst 4, 1) := by decide +kernel
theorem dL_law_178 : decode bL_law 178 = .ok (.iadd, 1) := by decide +kernel
theorem dL_law_179 : decode bL_law 179 = .ok (.iaload, 1) := by decide +kernel
theorem dL_law_180 : decode bL_law 180 = .ok (.invokevirtual 85, 3) := by decide +kernel
theorem dL_law_183 : decode bL_law 183 = .ok (.istore 7, 2) := by decide +kernel
theorem dL_law_185 : decode bL_law 185 = .ok (.aload_n 2, 1) := by decide +kernel
theorem dL_law_186 : decode bL_law 186 = .ok (.invokevirtual 86, 3) := by decide +kernel
theorem dL_law_189 : decode bL_law 189 = .ok (.iload 6, 2) := by decide +kernel
theorem dL_law_191 : decode bL_law 191 = .ok (.if_icmp .eq 5, 3) := by decide +kernel
theorem dL_law_194 : decode bL_law 194 = .ok (.iconst 0, 1) := by decide +kernel
theorem dL_law_195 : decode bL_law 195 = .ok (.ireturn, 1) := by decide +kernel
theorem dL_law_196 : decode bL_law 196 = .ok (.iload 6, 2) := by decide +kernel
theorem dL_law_198 : decode bL_law 198 = .ok (.ifCond .ne 15, 3) := by decide +kernel
theorem dL_law_201 : decode bL_law 201 = .ok (.aload_n 3, 1) := by decide +kernel
theorem dL_law_202 : decode bL_law 202 = .ok (.iconst 0, 1) := by decide +kernel
theorem dL_law_203 : decode bL_law 203 = .ok (.laload, 1) := by decide +kernel
theorem dL_law_204 : decode bL_law 204 = .ok (.iload 7, 2) := by decide +kernel
theorem dL_law_206 : decode bL_law 206 = .ok (.i2l, 1) := by decide +kernel
theorem dL_law_207 : decode bL_law 207 = .ok (.lcmp, 1) := by decide +kernel
theorem dL_law_208 : decode bL_law 208 = .ok (.ifCond .eq 5, 3) := by decide +kernel
theorem dL_law_211 : decode bL_law 211 = .ok (.iconst 0, 1) := by decide +kernel
theorem dL_law_212 : decode bL_law 212 = .ok (.ireturn, 1) := by decide +kernel
theorem dL_law_213 : decode bL_law 213 = .ok (.goto 855, 3) := by decide +kernel
theorem dL_law_216 : decode bL_law 216 = .ok (.aload_n 1, 1) := by decide +kernel
theorem dL_law_217 : decode bL_law 217 = .ok (.aload_n 0, 1) := by decide +kernel
theorem dL_law_218 : decode bL_law 218 = .ok (.iload 5, 2) := by decide +kernel
theorem dL_law_220 : decode bL_law 220 = .ok (.iconst 1, 1) := by decide +kernel
theorem dL_law_221 : decode bL_law 221 = .ok (.iadd, 1) := by decide +kernel
theorem dL_law_222 : decode bL_law 222 = .ok (.iaload, 1) := by decide +kernel
theorem dL_law_223 : decode bL_law 223 = .ok (.aload_n 0, 1) := by decide +kernel
theorem dL_law_224 : decode bL_law 224 = .ok (.iload 5, 2) := by decide +kernel
theorem dL_law_226 : decode bL_law 226 = .ok (.iconst 2, 1) := by decide +kernel
theorem dL_law_227 : decode bL_law 227 = .ok (.iadd, 1) := by decide +kernel
theorem dL_law_228 : decode bL_law 228 = .ok (.iaload, 1) := by decide +kernel
theorem dL_law_229 : decode bL_law 229 = .ok (.i2l, 1) := by decide +kernel
theorem dL_law_230 : decode bL_law 230 = .ok (.bipush 32, 2) := by decide +kernel
theorem dL_law_232 : decode bL_law 232 = .ok (.lshl, 1) := by decide +kernel
theorem dL_law_233 : decode bL_law 233 = .ok (.aload_n 0, 1) := by decide +kernel
theorem dL_law_234 : decode bL_law 234 = .ok (.iload 5, 2) := by decide +kernel
theorem dL_law_236 : decode bL_law 236 = .ok (.iconst 3, 1) := by decide +kernel
theorem dL_law_237 : decode bL_law 237 = .ok (.iadd, 1) := by decide +kernel
theorem dL_law_238 : decode bL_law 238 = .ok (.iaload, 1) := by decide +kernel
theorem dL_law_239 : decode bL_law 239 = .ok (.i2l, 1) := by decide +kernel
theorem dL_law_240 : decode bL_law 240 = .ok (.ldc2_w 89, 3) := by decide +kernel
theorem dL_law_243 : decode bL_law 243 = .ok (.land, 1) := by decide +kernel
theorem dL_law_244 : decode bL_law 244 = .ok (.lor, 1) := by decide +kernel
theorem dL_law_245 : decode bL_law 245 = .ok (.aload_n 0, 1) := by decide +kernel
theorem dL_law_246 : decode bL_law 246 = .ok (.iload 5, 2) := by decide +kernel
theorem dL_law_248 : decode bL_law 248 = .ok (.iconst 4, 1) := by decide +kernel
theorem dL_law_249 : decode bL_law 249 = .ok (.iadd, 1) := by decide +kernel
theorem dL_law_250 : decode bL_law 250 = .ok (.iaload, 1) := by decide +kernel
theorem dL_law_251 : decode bL_law 251 = .ok (.aload_n 3, 1) := by decide +kernel
theorem dL_law_252 : decode bL_law 252 = .ok (.invokestatic 91, 3) := by decide +kernel
theorem dL_law_255 : decode bL_law 255 = .ok (.istore 6, 2) := by decide +kernel
theorem dL_law_257 : decode bL_law 257 = .ok (.aload_n 2, 1) := by decide +kernel
theorem dL_law_258 : decode bL_law 258 = .ok (.aload_n 0, 1) := by decide +kernel
theorem dL_law_259 : decode bL_law 259 = .ok (.iload 5, 2) := by decide +kernel
theorem dL_law_261 : decode bL_law 261 = .ok (.iconst 1, 1) := by decide +kernel
theorem dL_law_262 : decode bL_law 262 = .ok (.iadd, 1) := by decide +kernel
theorem dL_law_263 : decode bL_law 263 = .ok (.iaload, 1) := by decide +kernel
theorem dL_law_264 : decode bL_law 264 = .ok (.aload_n 0, 1) := by decide +kernel
theorem dL_law_265 : decode bL_law 265 = .ok (.iload 5, 2) := by decide +kernel
theorem dL_law_267 : decode bL_law 267 = .ok (.iconst 2, 1) := by decide +kernel
theorem dL_law_268 : decode bL_law 268 = .ok (.iadd, 1) := by decide +kernel
theorem dL_law_269 : decode bL_law 269 = .ok (.iaload, 1) := by decide +kernel
theorem dL_law_270 : decode bL_law 270 = .ok (.i2l, 1) := by decide +kernel
theorem dL_law_271 : decode bL_law 271 = .ok (.bipush 32, 2) := by decide +kernel
theorem dL_law_273 : decode bL_law 273 = .ok (.lshl, 1) := by decide +kernel
theorem dL_law_274 : decode bL_law 274 = .ok (.aload_n 0, 1) := by decide +kernel
theorem dL_law_275 : decode bL_law 275 = .ok (.iload 5, 2) := by decide +kernel
theorem dL_law_277 : decode bL_law 277 = .ok (.iconst 3, 1) := by decide +kernel
theorem dL_law_278 : decode bL_law 278 = .ok (.iadd, 1) := by decide +kernel
theorem dL_law_279 : decode bL_law 279 = .ok (.iaload, 1) := by decide +kernel
theorem dL_law_280 : decode bL_law 280 = .ok (.i2l, 1) := by decide +kernel
theorem dL_law_281 : decode bL_law 281 = .ok (.ldc2_w 89, 3) := by decide +kernel
theorem dL_law_284 : decode bL_law 284 = .ok (.land, 1) := by decide +kernel
theorem dL_law_285 : decode bL_law 285 = .ok (.lor, 1) := by decide +kernel
theorem dL_law_286 : decode bL_law 286 = .ok (.aload_n 0, 1) := by decide +kernel
theorem dL_law_287 : decode bL_law 287 = .ok (.iload 5, 2) := by decide +kernel
theorem dL_law_289 : decode bL_law 289 = .ok (.iconst 4, 1) := by decide +kernel
theorem dL_law_290 : decode bL_law 290 = .ok (.iadd, 1) := by decide +kernel
theorem dL_law_291 : decode bL_law 291 = .ok (.iaload, 1) := by decide +kernel
theorem dL_law_292 : decode bL_law 292 = .ok (.invokevirtual 94, 3) := by decide +kernel
theorem dL_law_295 : decode bL_law 295 = .ok (.istore 7, 2) := by decide +kernel
theorem dL_law_297 : decode bL_law 297 = .ok (.aload_n 2, 1) := by decide +kernel
theorem dL_law_298 : decode bL_law 298 = .ok (.invokevirtual 86, 3) := by decide +kernel
theorem dL_law_301 : decode bL_law 301 = .ok (.iload 6, 2) := by decide +kernel
theorem dL_law_303 : decode bL_law 303 = .ok (.if_icmp .eq 5, 3) := by decide +kernel
theorem dL_law_306 : decode bL_law 306 = .ok (.iconst 0, 1) := by decide +kernel
theorem dL_law_307 : decode bL_law 307 = .ok (.ireturn, 1) := by decide +kernel
theorem dL_law_308 : decode bL_law 308 = .ok (.iload 6, 2) := by decide +kernel
theorem dL_law_310 : decode bL_law 310 = .ok (.ifCond .ne 15, 3) := by decide +kernel
theorem dL_law_313 : decode bL_law 313 = .ok (.aload_n 3, 1) := by decide +kernel
theorem dL_law_314 : decode bL_law 314 = .ok (.iconst 0, 1) := by decide +kernel
theorem dL_law_315 : decode bL_law 315 = .ok (.laload, 1) := by decide +kernel
theorem dL_law_316 : decode bL_law 316 = .ok (.iload 7, 2) := by decide +kernel
theorem dL_law_318 : decode bL_law 318 = .ok (.i2l, 1) := by decide +kernel
theorem dL_law_319 : decode bL_law 319 = .ok (.lcmp, 1) := by decide +kernel
theorem dL_law_320 : decode bL_law 320 = .ok (.ifCond .eq 5, 3) := by decide +kernel
theorem dL_law_323 : decode bL_law 323 = .ok (.iconst 0, 1) := by decide +kernel
theorem dL_law_324 : decode bL_law 324 = .ok (.ireturn, 1) := by decide +kernel
theorem dL_law_325 : decode bL_law 325 = .ok (.goto 743, 3) := by decide +kernel
theorem dL_law_328 : decode bL_law 328 = .ok (.aload_n 1, 1) := by decide +kernel
theorem dL_law_329 : decode bL_law 329 = .ok (.aload_n 0, 1) := by decide +kernel
theorem dL_law_330 : decode bL_law 330 = .ok (.iload 5, 2) := by decide +kernel
theorem dL_law_332 : decode bL_law 332 = .ok (.iconst 1, 1) := by decide +kernel
theorem dL_law_333 : decode bL_law 333 = .ok (.iadd, 1) := by decide +kernel
theorem dL_law_334 : decode bL_law 334 = .ok (.iaload, 1) := by decide +kernel
theorem dL_law_335 : decode bL_law 335 = .ok (.aload_n 0, 1) := by decide +kernel
theorem dL_law_336 : decode bL_law 336 = .ok (.iload 5, 2) := by decide +kernel
theorem dL_law_338 : decode bL_law 338 = .ok (.iconst 2, 1) := by decide +kernel
theorem dL_law_339 : decode bL_law 339 = .ok (.iadd, 1) := by decide +kernel
theorem dL_law_340 : decode bL_law 340 = .ok (.iaload, 1) := by decide +kernel
theorem dL_law_341 : decode bL_law 341 = .ok (.aload_n 3, 1) := by decide +kernel
theorem dL_law_342 : decode bL_law 342 = .ok (.invokestatic 95, 3) := by decide +kernel
theorem dL_law_345 : decode bL_law 345 = .ok (.istore 6, 2) := by decide +kernel
theorem dL_law_347 : decode bL_law 347 = .ok (.aload_n 2, 1) := by decide +kernel
theorem dL_law_348 : decode bL_law 348 = .ok (.aload_n 0, 1) := by decide +kernel
theorem dL_law_349 : decode bL_law 349 = .ok (.iload 5, 2) := by decide +kernel
theorem dL_law_351 : decode bL_law 351 = .ok (.iconst 1, 1) := by decide +kernel
theorem dL_law_352 : decode bL_law 352 = .ok (.iadd, 1) := by decide +kernel
theorem dL_law_353 : decode bL_law 353 = .ok (.iaload, 1) := by decide +kernel
theorem dL_law_354 : decode bL_law 354 = .ok (.aload_n 0, 1) := by decide +kernel
theorem dL_law_355 : decode bL_law 355 = .ok (.iload 5, 2) := by decide +kernel
theorem dL_law_357 : decode bL_law 357 = .ok (.iconst 2, 1) := by decide +kernel
theorem dL_law_358 : decode bL_law 358 = .ok (.iadd, 1) := by decide +kernel
theorem dL_law_359 : decode bL_law 359 = .ok (.iaload, 1) := by decide +kernel
theorem dL_law_360 : decode bL_law 360 = .ok (.invokevirtual 98, 3) := by decide +kernel
theorem dL_law_363 : decode bL_law 363 = .ok (.istore 7, 2) := by decide +kernel
theorem dL_law_365 : decode bL_law 365 = .ok (.aload_n 2, 1) := by decide +kernel
theorem dL_law_366 : decode bL_law 366 = .ok (.invokevirtual 86, 3) := by decide +kernel
theorem dL_law_369 : decode bL_law 369 = .ok (.iload 6, 2) := by decide +kernel
theorem dL_law_371 : decode bL_law 371 = .ok (.if_icmp .eq 5, 3) := by decide +kernel
theorem dL_law_374 : decode bL_law 374 = .ok (.iconst 0, 1) := by decide +kernel
theorem dL_law_375 : decode bL_law 375 = .ok (.ireturn, 1) := by decide +kernel
theorem dL_law_376 : decode bL_law 376 = .ok (.iload 6, 2) := by decide +kernel
theorem dL_law_378 : decode bL_law 378 = .ok (.ifCond .ne 15, 3) := by decide +kernel
theorem dL_law_381 : decode bL_law 381 = .ok (.aload_n 3, 1) := by decide +kernel
theorem dL_law_382 : decode bL_law 382 = .ok (.iconst 0, 1) := by decide +kernel
theorem dL_law_383 : decode bL_law 383 = .ok (.laload, 1) := by decide +kernel
theorem dL_law_384 : decode bL_law 384 = .ok (.iload 7, 2) := by decide +kernel
theorem dL_law_386 : decode bL_law 386 = .ok (.i2l, 1) := by decide +kernel
theorem dL_law_387 : decode bL_law 387 = .ok (.lcmp, 1) := by decide +kernel
theorem dL_law_388 : decode bL_law 388 = .ok (.ifCond .eq 5, 3) := by decide +kernel
theorem dL_law_391 : decode bL_law 391 = .ok (.iconst 0, 1) := by decide +kernel
theorem dL_law_392 : decode bL_law 392 = .ok (.ireturn, 1) := by decide +kernel
theorem dL_law_393 : decode bL_law 393 = .ok (.goto 675, 3) := by decide +kernel
theorem dL_law_396 : decode bL_law 396 = .ok (.aload_n 1, 1) := by decide +kernel
theorem dL_law_397 : decode bL_law 397 = .ok (.aload_n 3, 1) := by decide +kernel
theorem dL_law_398 : decode bL_law 398 = .ok (.invokestatic 99, 3) := by decide +kernel
theorem dL_law_401 : decode bL_law 401 = .ok (.istore 6, 2) := by decide +kernel
theorem dL_law_403 : decode bL_law 403 = .ok (.aload_n 2, 1) := by decide +kernel
theorem dL_law_404 : decode bL_law 404 = .ok (.invokevirtual 102, 3) := by decide +kernel
theorem dL_law_407 : decode bL_law 407 = .ok (.istore 7, 2) := by decide +kernel
theorem dL_law_409 : decode bL_law 409 = .ok (.aload_n 2, 1) := by decide +kernel
theorem dL_law_410 : decode bL_law 410 = .ok (.invokevirtual 86, 3) := by decide +kernel
theorem dL_law_413 : decode bL_law 413 = .ok (.iload 6, 2) := by decide +kernel
theorem dL_law_415 : decode bL_law 415 = .ok (.if_icmp .eq 5, 3) := by decide +kernel
theorem dL_law_418 : decode bL_law 418 = .ok (.iconst 0, 1) := by decide +kernel
theorem dL_law_419 : decode bL_law 419 = .ok (.ireturn, 1) := by decide +kernel
theorem dL_law_420 : decode bL_law 420 = .ok (.iload 6, 2) := by decide +kernel
theorem dL_law_422 : decode bL_law 422 = .ok (.ifCond .ne 15, 3) := by decide +kernel
theorem dL_law_425 : decode bL_law 425 = .ok (.aload_n 3, 1) := by decide +kernel
theorem dL_law_426 : decode bL_law 426 = .ok (.iconst 0, 1) := by decide +kernel
theorem dL_law_427 : decode bL_law 427 = .ok (.laload, 1) := by decide +kernel
theorem dL_law_428 : decode bL_law 428 = .ok (.iload 7, 2) := by decide +kernel
theorem dL_law_430 : decode bL_law 430 = .ok (.i2l, 1) := by decide +kernel
theorem dL_law_431 : decode bL_law 431 = .ok (.lcmp, 1) := by decide +kernel
theorem dL_law_432 : decode bL_law 432 = .ok (.ifCond .eq 5, 3) := by decide +kernel
theorem dL_law_435 : decode bL_law 435 = .ok (.iconst 0, 1) := by decide +kernel
theorem dL_law_436 : decode bL_law 436 = .ok (.ireturn, 1) := by decide +kernel
theorem dL_law_437 : decode bL_law 437 = .ok (.goto 631, 3) := by decide +kernel
theorem dL_law_440 : decode bL_law 440 = .ok (.aload_n 1, 1) := by decide +kernel
theorem dL_law_441 : decode bL_law 441 = .ok (.aload_n 0, 1) := by decide +kernel
theorem dL_law_442 : decode bL_law 442 = .ok (.iload 5, 2) := by decide +kernel
theorem dL_law_444 : decode bL_law 444 = .ok (.iconst 1, 1) := by decide +kernel
theorem dL_law_445 : decode bL_law 445 = .ok (.iadd, 1) := by decide +kernel
theorem dL_law_446 : decode bL_law 446 = .ok (.iaload, 1) := by decide +kernel
theorem dL_law_447 : decode bL_law 447 = .ok (.aload_n 3, 1) := by decide +kernel
theorem dL_law_448 : decode bL_law 448 = .ok (.invokestatic 103, 3) := by decide +kernel
theorem dL_law_451 : decode bL_law 451 = .ok (.istore 6, 2) := by decide +kernel
theorem dL_law_453 : decode bL_law 453 = .ok (.aload_n 2, 1) := by decide +kernel
theorem dL_law_454 : decode bL_law 454 = .ok (.aload_n 0, 1) := by decide +kernel
theorem dL_law_455 : decode bL_law 455 = .ok (.iload 5, 2) := by decide +kernel
theorem dL_law_457 : decode bL_law 457 = .ok (.iconst 1, 1) := by decide +kernel
theorem dL_law_458 : decode bL_law 458 = .ok (.iadd, 1) := by decide +kernel
theorem dL_law_459 : decode bL_law 459 = .ok (.iaload, 1) := by decide +kernel
theorem dL_law_460 : decode bL_law 460 = .ok (.invokevirtual 106, 3) := by decide +kernel
theorem dL_law_463 : decode bL_law 463 = .ok (.istore 7, 2) := by decide +kernel
theorem dL_law_465 : decode bL_law 465 = .ok (.aload_n 2, 1) := by decide +kernel
theorem dL_law_466 : decode bL_law 466 = .ok (.invokevirtual 86, 3) := by decide +kernel
theorem dL_law_469 : decode bL_law 469 = .ok (.iload 6, 2) := by decide +kernel
theorem dL_law_471 : decode bL_law 471 = .ok (.if_icmp .eq 5, 3) := by decide +kernel
theorem dL_law_474 : decode bL_law 474 = .ok (.iconst 0, 1) := by decide +kernel
theorem dL_law_475 : decode bL_law 475 = .ok (.ireturn, 1) := by decide +kernel
theorem dL_law_476 : decode bL_law 476 = .ok (.iload 6, 2) := by decide +kernel
theorem dL_law_478 : decode bL_law 478 = .ok (.ifCond .ne 15, 3) := by decide +kernel
theorem dL_law_481 : decode bL_law 481 = .ok (.aload_n 3, 1) := by decide +kernel
theorem dL_law_482 : decode bL_law 482 = .ok (.iconst 0, 1) := by decide +kernel
theorem dL_law_483 : decode bL_law 483 = .ok (.laload, 1) := by decide +kernel
theorem dL_law_484 : decode bL_law 484 = .ok (.iload 7, 2) := by decide +kernel
theorem dL_law_486 : decode bL_law 486 = .ok (.i2l, 1) := by decide +kernel
theorem dL_law_487 : decode bL_law 487 = .ok (.lcmp, 1) := by decide +kernel
theorem dL_law_488 : decode bL_law 488 = .ok (.ifCond .eq 5, 3) := by decide +kernel
theorem dL_law_491 : decode bL_law 491 = .ok (.iconst 0, 1) := by decide +kernel
theorem dL_law_492 : decode bL_law 492 = .ok (.ireturn, 1) := by decide +kernel
theorem dL_law_493 : decode bL_law 493 = .ok (.goto 575, 3) := by decide +kernel
theorem dL_law_496 : decode bL_law 496 = .ok (.aload_n 1, 1) := by decide +kernel
theorem dL_law_497 : decode bL_law 497 = .ok (.aload_n 0, 1) := by decide +kernel
theorem dL_law_498 : decode bL_law 498 = .ok (.iload 5, 2) := by decide +kernel
theorem dL_law_500 : decode bL_law 500 = .ok (.iconst 1, 1) := by decide +kernel
theorem dL_law_501 : decode bL_law 501 = .ok (.iadd, 1) := by decide +kernel
theorem dL_law_502 : decode bL_law 502 = .ok (.iaload, 1) := by decide +kernel
theorem dL_law_503 : decode bL_law 503 = .ok (.aload_n 3, 1) := by decide +kernel
theorem dL_law_504 : decode bL_law 504 = .ok (.invokestatic 107, 3) := by decide +kernel
theorem dL_law_507 : decode bL_law 507 = .ok (.istore 6, 2) := by decide +kernel
theorem dL_law_509 : decode bL_law 509 = .ok (.aload_n 2, 1) := by decide +kernel
theorem dL_law_510 : decode bL_law 510 = .ok (.aload_n 0, 1) := by decide +kernel
theorem dL_law_511 : decode bL_law 511 = .ok (.iload 5, 2) := by decide +kernel
theorem dL_law_513 : decode bL_law 513 = .ok (.iconst 1, 1) := by decide +kernel
theorem dL_law_514 : decode bL_law 514 = .ok (.iadd, 1) := by decide +kernel
theorem dL_law_515 : decode bL_law 515 = .ok (.iaload, 1) := by decide +kernel
theorem dL_law_516 : decode bL_law 516 = .ok (.invokevirtual 109, 3) := by decide +kernel
theorem dL_law_519 : decode bL_law 519 = .ok (.istore 7, 2) := by decide +kernel
theorem dL_law_521 : decode bL_law 521 = .ok (.aload_n 2, 1) := by decide +kernel
theorem dL_law_522 : decode bL_law 522 = .ok (.invokevirtual 86, 3) := by decide +kernel
theorem dL_law_525 : decode bL_law 525 = .ok (.iload 6, 2) := by decide +kernel
theorem dL_law_527 : decode bL_law 527 = .ok (.if_icmp .eq 5, 3) := by decide +kernel
theorem dL_law_530 : decode bL_law 530 = .ok (.iconst 0, 1) := by decide +kernel
theorem dL_law_531 : decode bL_law 531 = .ok (.ireturn, 1) := by decide +kernel
theorem dL_law_532 : decode bL_law 532 = .ok (.iload 6, 2) := by decide +kernel
theorem dL_law_534 : decode bL_law 534 = .ok (.ifCond .ne 15, 3) := by decide +kernel
theorem dL_law_537 : decode bL_law 537 = .ok (.aload_n 3, 1) := by decide +kernel
theorem dL_law_538 : decode bL_law 538 = .ok (.iconst 0, 1) := by decide +kernel
theorem dL_law_539 : decode bL_law 539 = .ok (.laload, 1) := by decide +kernel
theorem dL_law_540 : decode bL_law 540 = .ok (.iload 7, 2) := by decide +kernel
theorem dL_law_542 : decode bL_law 542 = .ok (.i2l, 1) := by decide +kernel
theorem dL_law_543 : decode bL_law 543 = .ok (.lcmp, 1) := by decide +kernel
theorem dL_law_544 : decode bL_law 544 = .ok (.ifCond .eq 5, 3) := by decide +kernel
theorem dL_law_547 : decode bL_law 547 = .ok (.iconst 0, 1) := by decide +kernel
theorem dL_law_548 : decode bL_law 548 = .ok (.ireturn, 1) := by decide +kernel
theorem dL_law_549 : decode bL_law 549 = .ok (.goto 519, 3) := by decide +kernel
theorem dL_law_552 : decode bL_law 552 = .ok (.aload_n 1, 1) := by decide +kernel
theorem dL_law_553 : decode bL_law 553 = .ok (.aload_n 0, 1) := by decide +kernel
theorem dL_law_554 : decode bL_law 554 = .ok (.iload 5, 2) := by decide +kernel
theorem dL_law_556 : decode bL_law 556 = .ok (.iconst 1, 1) := by decide +kernel
theorem dL_law_557 : decode bL_law 557 = .ok (.iadd, 1) := by decide +kernel
theorem dL_law_558 : decode bL_law 558 = .ok (.iaload, 1) := by decide +kernel
theorem dL_law_559 : decode bL_law 559 = .ok (.aload_n 3, 1) := by decide +kernel
theorem dL_law_560 : decode bL_law 560 = .ok (.invokestatic 110, 3) := by decide +kernel
theorem dL_law_563 : decode bL_law 563 = .ok (.istore 6, 2) := by decide +kernel
theorem dL_law_565 : decode bL_law 565 = .ok (.aload_n 2, 1) := by decide +kernel
theorem dL_law_566 : decode bL_law 566 = .ok (.aload_n 0, 1) := by decide +kernel
theorem dL_law_567 : decode bL_law 567 = .ok (.iload 5, 2) := by decide +kernel
theorem dL_law_569 : decode bL_law 569 = .ok (.iconst 1, 1) := by decide +kernel
theorem dL_law_570 : decode bL_law 570 = .ok (.iadd, 1) := by decide +kernel
theorem dL_law_571 : decode bL_law 571 = .ok (.iaload, 1) := by decide +kernel
theorem dL_law_572 : decode bL_law 572 = .ok (.invokevirtual 112, 3) := by decide +kernel
theorem dL_law_575 : decode bL_law 575 = .ok (.istore 7, 2) := by decide +kernel
theorem dL_law_577 : decode bL_law 577 = .ok (.aload_n 2, 1) := by decide +kernel
theorem dL_law_578 : decode bL_law 578 = .ok (.invokevirtual 86, 3) := by decide +kernel
theorem dL_law_581 : decode bL_law 581 = .ok (.iload 6, 2) := by decide +kernel
theorem dL_law_583 : decode bL_law 583 = .ok (.if_icmp .eq 5, 3) := by decide +kernel
theorem dL_law_586 : decode bL_law 586 = .ok (.iconst 0, 1) := by decide +kernel
theorem dL_law_587 : decode bL_law 587 = .ok (.ireturn, 1) := by decide +kernel
theorem dL_law_588 : decode bL_law 588 = .ok (.iload 6, 2) := by decide +kernel
theorem dL_law_590 : decode bL_law 590 = .ok (.ifCond .ne 15, 3) := by decide +kernel
theorem dL_law_593 : decode bL_law 593 = .ok (.aload_n 3, 1) := by decide +kernel
theorem dL_law_594 : decode bL_law 594 = .ok (.iconst 0, 1) := by decide +kernel
theorem dL_law_595 : decode bL_law 595 = .ok (.laload, 1) := by decide +kernel
theorem dL_law_596 : decode bL_law 596 = .ok (.iload 7, 2) := by decide +kernel
theorem dL_law_598 : decode bL_law 598 = .ok (.i2l, 1) := by decide +kernel
theorem dL_law_599 : decode bL_law 599 = .ok (.lcmp, 1) := by decide +kernel
theorem dL_law_600 : decode bL_law 600 = .ok (.ifCond .eq 5, 3) := by decide +kernel
theorem dL_law_603 : decode bL_law 603 = .ok (.iconst 0, 1) := by decide +kernel
theorem dL_law_604 : decode bL_law 604 = .ok (.ireturn, 1) := by decide +kernel
theorem dL_law_605 : decode bL_law 605 = .ok (.goto 463, 3) := by decide +kernel
theorem dL_law_608 : decode bL_law 608 = .ok (.aload_n 1, 1) := by decide +kernel
theorem dL_law_609 : decode bL_law 609 = .ok (.aload_n 0, 1) := by decide +kernel
theorem dL_law_610 : decode bL_law 610 = .ok (.iload 5, 2) := by decide +kernel
theorem dL_law_612 : decode bL_law 612 = .ok (.iconst 1, 1) := by decide +kernel
theorem dL_law_613 : decode bL_law 613 = .ok (.iadd, 1) := by decide +kernel
theorem dL_law_614 : decode bL_law 614 = .ok (.iaload, 1) := by decide +kernel
theorem dL_law_615 : decode bL_law 615 = .ok (.aload_n 3, 1) := by decide +kernel
theorem dL_law_616 : decode bL_law 616 = .ok (.invokestatic 113, 3) := by decide +kernel
theorem dL_law_619 : decode bL_law 619 = .ok (.istore 6, 2) := by decide +kernel
theorem dL_law_621 : decode bL_law 621 = .ok (.aload_n 2, 1) := by decide +kernel
theorem dL_law_622 : decode bL_law 622 = .ok (.aload_n 0, 1) := by decide +kernel
theorem dL_law_623 : decode bL_law 623 = .ok (.iload 5, 2) := by decide +kernel
theorem dL_law_625 : decode bL_law 625 = .ok (.iconst 1, 1) := by decide +kernel
theorem dL_law_626 : decode bL_law 626 = .ok (.iadd, 1) := by decide +kernel
theorem dL_law_627 : decode bL_law 627 = .ok (.iaload, 1) := by decide +kernel
theorem dL_law_628 : decode bL_law 628 = .ok (.invokevirtual 115, 3) := by decide +kernel
theorem dL_law_631 : decode bL_law 631 = .ok (.istore 7, 2) := by decide +kernel
theorem dL_law_633 : decode bL_law 633 = .ok (.aload_n 2, 1) := by decide +kernel
theorem dL_law_634 : decode bL_law 634 = .ok (.invokevirtual 86, 3) := by decide +kernel
theorem dL_law_637 : decode bL_law 637 = .ok (.iload 6, 2) := by decide +kernel
theorem dL_law_639 : decode bL_law 639 = .ok (.if_icmp .eq 5, 3) := by decide +kernel
theorem dL_law_642 : decode bL_law 642 = .ok (.iconst 0, 1) := by decide +kernel
theorem dL_law_643 : decode bL_law 643 = .ok (.ireturn, 1) := by decide +kernel
theorem dL_law_644 : decode bL_law 644 = .ok (.iload 6, 2) := by decide +kernel
theorem dL_law_646 : decode bL_law 646 = .ok (.ifCond .ne 15, 3) := by decide +kernel
theorem dL_law_649 : decode bL_law 649 = .ok (.aload_n 3, 1) := by decide +kernel
theorem dL_law_650 : decode bL_law 650 = .ok (.iconst 0, 1) := by decide +kernel
theorem dL_law_651 : decode bL_law 651 = .ok (.laload, 1) := by decide +kernel
theorem dL_law_652 : decode bL_law 652 = .ok (.iload 7, 2) := by decide +kernel
theorem dL_law_654 : decode bL_law 654 = .ok (.i2l, 1) := by decide +kernel
theorem dL_law_655 : decode bL_law 655 = .ok (.lcmp, 1) := by decide +kernel
theorem dL_law_656 : decode bL_law 656 = .ok (.ifCond .eq 5, 3) := by decide +kernel
theorem dL_law_659 : decode bL_law 659 = .ok (.iconst 0, 1) := by decide +kernel
theorem dL_law_660 : decode bL_law 660 = .ok (.ireturn, 1) := by decide +kernel
theorem dL_law_661 : decode bL_law 661 = .ok (.goto 407, 3) := by decide +kernel
theorem dL_law_664 : decode bL_law 664 = .ok (.aload_n 1, 1) := by decide +kernel
theorem dL_law_665 : decode bL_law 665 = .ok (.aload_n 3, 1) := by decide +kernel
theorem dL_law_666 : decode bL_law 666 = .ok (.invokestatic 116, 3) := by decide +kernel
theorem dL_law_669 : decode bL_law 669 = .ok (.istore 6, 2) := by decide +kernel
theorem dL_law_671 : decode bL_law 671 = .ok (.aload_n 2, 1) := by decide +kernel
theorem dL_law_672 : decode bL_law 672 = .ok (.invokevirtual 118, 3) := by decide +kernel
theorem dL_law_675 : decode bL_law 675 = .ok (.istore 7, 2) := by decide +kernel
theorem dL_law_677 : decode bL_law 677 = .ok (.aload_n 2, 1) := by decide +kernel
theorem dL_law_678 : decode bL_law 678 = .ok (.invokevirtual 86, 3) := by decide +kernel
theorem dL_law_681 : decode bL_law 681 = .ok (.iload 6, 2) := by decide +kernel
theorem dL_law_683 : decode bL_law 683 = .ok (.if_icmp .eq 5, 3) := by decide +kernel
theorem dL_law_686 : decode bL_law 686 = .ok (.iconst 0, 1) := by decide +kernel
theorem dL_law_687 : decode bL_law 687 = .ok (.ireturn, 1) := by decide +kernel
theorem dL_law_688 : decode bL_law 688 = .ok (.iload 6, 2) := by decide +kernel
theorem dL_law_690 : decode bL_law 690 = .ok (.ifCond .ne 15, 3) := by decide +kernel
theorem dL_law_693 : decode bL_law 693 = .ok (.aload_n 3, 1) := by decide +kernel
theorem dL_law_694 : decode bL_law 694 = .ok (.iconst 0, 1) := by decide +kernel
theorem dL_law_695 : decode bL_law 695 = .ok (.laload, 1) := by decide +kernel
theorem dL_law_696 : decode bL_law 696 = .ok (.iload 7, 2) := by decide +kernel
theorem dL_law_698 : decode bL_law 698 = .ok (.i2l, 1) := by decide +kernel
theorem dL_law_699 : decode bL_law 699 = .ok (.lcmp, 1) := by decide +kernel
theorem dL_law_700 : decode bL_law 700 = .ok (.ifCond .eq 5, 3) := by decide +kernel
theorem dL_law_703 : decode bL_law 703 = .ok (.iconst 0, 1) := by decide +kernel
theorem dL_law_704 : decode bL_law 704 = .ok (.ireturn, 1) := by decide +kernel
theorem dL_law_705 : decode bL_law 705 = .ok (.goto 363, 3) := by decide +kernel
theorem dL_law_708 : decode bL_law 708 = .ok (.aload_n 1, 1) := by decide +kernel
theorem dL_law_709 : decode bL_law 709 = .ok (.aload_n 3, 1) := by decide +kernel
theorem dL_law_710 : decode bL_law 710 = .ok (.invokestatic 119, 3) := by decide +kernel
theorem dL_law_713 : decode bL_law 713 = .ok (.istore 6, 2) := by decide +kernel
theorem dL_law_715 : decode bL_law 715 = .ok (.aload_n 2, 1) := by decide +kernel
theorem dL_law_716 : decode bL_law 716 = .ok (.invokevirtual 121, 3) := by decide +kernel
theorem dL_law_719 : decode bL_law 719 = .ok (.lstore 7, 2) := by decide +kernel
theorem dL_law_721 : decode bL_law 721 = .ok (.aload_n 2, 1) := by decide +kernel
theorem dL_law_722 : decode bL_law 722 = .ok (.invokevirtual 86, 3) := by decide +kernel
theorem dL_law_725 : decode bL_law 725 = .ok (.iload 6, 2) := by decide +kernel
theorem dL_law_727 : decode bL_law 727 = .ok (.if_icmp .eq 5, 3) := by decide +kernel
theorem dL_law_730 : decode bL_law 730 = .ok (.iconst 0, 1) := by decide +kernel
theorem dL_law_731 : decode bL_law 731 = .ok (.ireturn, 1) := by decide +kernel
theorem dL_law_732 : decode bL_law 732 = .ok (.iload 6, 2) := by decide +kernel
theorem dL_law_734 : decode bL_law 734 = .ok (.ifCond .ne 14, 3) := by decide +kernel
theorem dL_law_737 : decode bL_law 737 = .ok (.aload_n 3, 1) := by decide +kernel
theorem dL_law_738 : decode bL_law 738 = .ok (.iconst 0, 1) := by decide +kernel
theorem dL_law_739 : decode bL_law 739 = .ok (.laload, 1) := by decide +kernel
theorem dL_law_740 : decode bL_law 740 = .ok (.lload 7, 2) := by decide +kernel
theorem dL_law_742 : decode bL_law 742 = .ok (.lcmp, 1) := by decide +kernel
theorem dL_law_743 : decode bL_law 743 = .ok (.ifCond .eq 5, 3) := by decide +kernel
theorem dL_law_746 : decode bL_law 746 = .ok (.iconst 0, 1) := by decide +kernel
theorem dL_law_747 : decode bL_law 747 = .ok (.ireturn, 1) := by decide +kernel
theorem dL_law_748 : decode bL_law 748 = .ok (.goto 320, 3) := by decide +kernel
theorem dL_law_751 : decode bL_law 751 = .ok (.aload_n 1, 1) := by decide +kernel
theorem dL_law_752 : decode bL_law 752 = .ok (.aload 4, 2) := by decide +kernel
theorem dL_law_754 : decode bL_law 754 = .ok (.invokestatic 122, 3) := by decide +kernel
theorem dL_law_757 : decode bL_law 757 = .ok (.istore 6, 2) := by decide +kernel
theorem dL_law_759 : decode bL_law 759 = .ok (.aload_n 2, 1) := by decide +kernel
theorem dL_law_760 : decode bL_law 760 = .ok (.invokevirtual 125, 3) := by decide +kernel
theorem dL_law_763 : decode bL_law 763 = .ok (.dstore 7, 2) := by decide +kernel
theorem dL_law_765 : decode bL_law 765 = .ok (.aload_n 2, 1) := by decide +kernel
theorem dL_law_766 : decode bL_law 766 = .ok (.invokevirtual 86, 3) := by decide +kernel
theorem dL_law_769 : decode bL_law 769 = .ok (.iload 6, 2) := by decide +kernel
theorem dL_law_771 : decode bL_law 771 = .ok (.if_icmp .eq 5, 3) := by decide +kernel
theorem dL_law_774 : decode bL_law 774 = .ok (.iconst 0, 1) := by decide +kernel
theorem dL_law_775 : decode bL_law 775 = .ok (.ireturn, 1) := by decide +kernel
theorem dL_law_776 : decode bL_law 776 = .ok (.iload 6, 2) := by decide +kernel
theorem dL_law_778 : decode bL_law 778 = .ok (.ifCond .ne 35, 3) := by decide +kernel
theorem dL_law_781 : decode bL_law 781 = .ok (.aload 4, 2) := by decide +kernel
theorem dL_law_783 : decode bL_law 783 = .ok (.iconst 0, 1) := by decide +kernel
theorem dL_law_784 : decode bL_law 784 = .ok (.daload, 1) := by decide +kernel
theorem dL_law_785 : decode bL_law 785 = .ok (.dload 7, 2) := by decide +kernel
theorem dL_law_787 : decode bL_law 787 = .ok (.dcmp .l, 1) := by decide +kernel
theorem dL_law_788 : decode bL_law 788 = .ok (.ifCond .eq 25, 3) := by decide +kernel
theorem dL_law_791 : decode bL_law 791 = .ok (.aload 4, 2) := by decide +kernel
theorem dL_law_793 : decode bL_law 793 = .ok (.iconst 0, 1) := by decide +kernel
theorem dL_law_794 : decode bL_law 794 = .ok (.daload, 1) := by decide +kernel
theorem dL_law_795 : decode bL_law 795 = .ok (.aload 4, 2) := by decide +kernel
theorem dL_law_797 : decode bL_law 797 = .ok (.iconst 0, 1) := by decide +kernel
theorem dL_law_798 : decode bL_law 798 = .ok (.daload, 1) := by decide +kernel
theorem dL_law_799 : decode bL_law 799 = .ok (.dcmp .l, 1) := by decide +kernel
theorem dL_law_800 : decode bL_law 800 = .ok (.ifCond .eq 11, 3) := by decide +kernel
theorem dL_law_803 : decode bL_law 803 = .ok (.dload 7, 2) := by decide +kernel
theorem dL_law_805 : decode bL_law 805 = .ok (.dload 7, 2) := by decide +kernel
theorem dL_law_807 : decode bL_law 807 = .ok (.dcmp .l, 1) := by decide +kernel
theorem dL_law_808 : decode bL_law 808 = .ok (.ifCond .ne 5, 3) := by decide +kernel
theorem dL_law_811 : decode bL_law 811 = .ok (.iconst 0, 1) := by decide +kernel
theorem dL_law_812 : decode bL_law 812 = .ok (.ireturn, 1) := by decide +kernel
theorem dL_law_813 : decode bL_law 813 = .ok (.goto 255, 3) := by decide +kernel
theorem dL_law_816 : decode bL_law 816 = .ok (.aload_n 1, 1) := by decide +kernel
theorem dL_law_817 : decode bL_law 817 = .ok (.aload_n 0, 1) := by decide +kernel
theorem dL_law_818 : decode bL_law 818 = .ok (.iload 5, 2) := by decide +kernel
theorem dL_law_820 : decode bL_law 820 = .ok (.iconst 1, 1) := by decide +kernel
theorem dL_law_821 : decode bL_law 821 = .ok (.iadd, 1) := by decide +kernel
theorem dL_law_822 : decode bL_law 822 = .ok (.iaload, 1) := by decide +kernel
theorem dL_law_823 : decode bL_law 823 = .ok (.aload_n 3, 1) := by decide +kernel
theorem dL_law_824 : decode bL_law 824 = .ok (.invokestatic 126, 3) := by decide +kernel
theorem dL_law_827 : decode bL_law 827 = .ok (.istore 6, 2) := by decide +kernel
theorem dL_law_829 : decode bL_law 829 = .ok (.aload_n 2, 1) := by decide +kernel
theorem dL_law_830 : decode bL_law 830 = .ok (.aload_n 0, 1) := by decide +kernel
theorem dL_law_831 : decode bL_law 831 = .ok (.iload 5, 2) := by decide +kernel
theorem dL_law_833 : decode bL_law 833 = .ok (.iconst 1, 1) := by decide +kernel
theorem dL_law_834 : decode bL_law 834 = .ok (.iadd, 1) := by decide +kernel
theorem dL_law_835 : decode bL_law 835 = .ok (.iaload, 1) := by decide +kernel
theorem dL_law_836 : decode bL_law 836 = .ok (.invokevirtual 128, 3) := by decide +kernel
theorem dL_law_839 : decode bL_law 839 = .ok (.lstore 7, 2) := by decide +kernel
theorem dL_law_841 : decode bL_law 841 = .ok (.aload_n 2, 1) := by decide +kernel
theorem dL_law_842 : decode bL_law 842 = .ok (.invokevirtual 86, 3) := by decide +kernel
theorem dL_law_845 : decode bL_law 845 = .ok (.iload 6, 2) := by decide +kernel
theorem dL_law_847 : decode bL_law 847 = .ok (.if_icmp .eq 5, 3) := by decide +kernel
theorem dL_law_850 : decode bL_law 850 = .ok (.iconst 0, 1) := by decide +kernel
theorem dL_law_851 : decode bL_law 851 = .ok (.ireturn, 1) := by decide +kernel
theorem dL_law_852 : decode bL_law 852 = .ok (.iload 6, 2) := by decide +kernel
theorem dL_law_854 : decode bL_law 854 = .ok (.ifCond .ne 14, 3) := by decide +kernel
theorem dL_law_857 : decode bL_law 857 = .ok (.aload_n 3, 1) := by decide +kernel
theorem dL_law_858 : decode bL_law 858 = .ok (.iconst 0, 1) := by decide +kernel
theorem dL_law_859 : decode bL_law 859 = .ok (.laload, 1) := by decide +kernel
theorem dL_law_860 : decode bL_law 860 = .ok (.lload 7, 2) := by decide +kernel
theorem dL_law_862 : decode bL_law 862 = .ok (.lcmp, 1) := by decide +kernel
theorem dL_law_863 : decode bL_law 863 = .ok (.ifCond .eq 5, 3) := by decide +kernel
theorem dL_law_866 : decode bL_law 866 = .ok (.iconst 0, 1) := by decide +kernel
theorem dL_law_867 : decode bL_law 867 = .ok (.ireturn, 1) := by decide +kernel
theorem dL_law_868 : decode bL_law 868 = .ok (.goto 200, 3) := by decide +kernel
theorem dL_law_871 : decode bL_law 871 = .ok (.aload_n 1, 1) := by decide +kernel
theorem dL_law_872 : decode bL_law 872 = .ok (.invokevirtual 129, 3) := by decide +kernel
theorem dL_law_875 : decode bL_law 875 = .ok (.dstore 6, 2) := by decide +kernel
theorem dL_law_877 : decode bL_law 877 = .ok (.aload_n 2, 1) := by decide +kernel
theorem dL_law_878 : decode bL_law 878 = .ok (.invokevirtual 132, 3) := by decide +kernel
theorem dL_law_881 : decode bL_law 881 = .ok (.dstore 8, 2) := by decide +kernel
theorem dL_law_883 : decode bL_law 883 = .ok (.dload 6, 2) := by decide +kernel
theorem dL_law_885 : decode bL_law 885 = .ok (.dload 8, 2) := by decide +kernel
theorem dL_law_887 : decode bL_law 887 = .ok (.dcmp .l, 1) := by decide +kernel
theorem dL_law_888 : decode bL_law 888 = .ok (.ifCond .eq 21, 3) := by decide +kernel
theorem dL_law_891 : decode bL_law 891 = .ok (.dload 6, 2) := by decide +kernel
theorem dL_law_893 : decode bL_law 893 = .ok (.dload 6, 2) := by decide +kernel
theorem dL_law_895 : decode bL_law 895 = .ok (.dcmp .l, 1) := by decide +kernel
theorem dL_law_896 : decode bL_law 896 = .ok (.ifCond .eq 11, 3) := by decide +kernel
theorem dL_law_899 : decode bL_law 899 = .ok (.dload 8, 2) := by decide +kernel
theorem dL_law_901 : decode bL_law 901 = .ok (.dload 8, 2) := by decide +kernel
theorem dL_law_903 : decode bL_law 903 = .ok (.dcmp .l, 1) := by decide +kernel
theorem dL_law_904 : decode bL_law 904 = .ok (.ifCond .ne 5, 3) := by decide +kernel
theorem dL_law_907 : decode bL_law 907 = .ok (.iconst 0, 1) := by decide +kernel
theorem dL_law_908 : decode bL_law 908 = .ok (.ireturn, 1) := by decide +kernel
theorem dL_law_909 : decode bL_law 909 = .ok (.goto 159, 3) := by decide +kernel
theorem dL_law_912 : decode bL_law 912 = .ok (.aload_n 1, 1) := by decide +kernel
theorem dL_law_913 : decode bL_law 913 = .ok (.aload_n 0, 1) := by decide +kernel
theorem dL_law_914 : decode bL_law 914 = .ok (.iload 5, 2) := by decide +kernel
theorem dL_law_916 : decode bL_law 916 = .ok (.iconst 1, 1) := by decide +kernel
theorem dL_law_917 : decode bL_law 917 = .ok (.iadd, 1) := by decide +kernel
theorem dL_law_918 : decode bL_law 918 = .ok (.iaload, 1) := by decide +kernel
theorem dL_law_919 : decode bL_law 919 = .ok (.aload_n 3, 1) := by decide +kernel
theorem dL_law_920 : decode bL_law 920 = .ok (.invokestatic 133, 3) := by decide +kernel
theorem dL_law_923 : decode bL_law 923 = .ok (.istore 6, 2) := by decide +kernel
theorem dL_law_925 : decode bL_law 925 = .ok (.aload_n 2, 1) := by decide +kernel
theorem dL_law_926 : decode bL_law 926 = .ok (.aload_n 0, 1) := by decide +kernel
theorem dL_law_927 : decode bL_law 927 = .ok (.iload 5, 2) := by decide +kernel
theorem dL_law_929 : decode bL_law 929 = .ok (.iconst 1, 1) := by decide +kernel
theorem dL_law_930 : decode bL_law 930 = .ok (.iadd, 1) := by decide +kernel
theorem dL_law_931 : decode bL_law 931 = .ok (.iaload, 1) := by decide +kernel
theorem dL_law_932 : decode bL_law 932 = .ok (.invokevirtual 135, 3) := by decide +kernel
theorem dL_law_935 : decode bL_law 935 = .ok (.istore 7, 2) := by decide +kernel
theorem dL_law_937 : decode bL_law 937 = .ok (.aload_n 2, 1) := by decide +kernel
theorem dL_law_938 : decode bL_law 938 = .ok (.invokevirtual 86, 3) := by decide +kernel
theorem dL_law_941 : decode bL_law 941 = .ok (.iload 6, 2) := by decide +kernel
theorem dL_law_943 : decode bL_law 943 = .ok (.if_icmp .eq 5, 3) := by decide +kernel
theorem dL_law_946 : decode bL_law 946 = .ok (.iconst 0, 1) := by decide +kernel
theorem dL_law_947 : decode bL_law 947 = .ok (.ireturn, 1) := by decide +kernel
theorem dL_law_948 : decode bL_law 948 = .ok (.iload 6, 2) := by decide +kernel
theorem dL_law_950 : decode bL_law 950 = .ok (.ifCond .ne 15, 3) := by decide +kernel
theorem dL_law_953 : decode bL_law 953 = .ok (.aload_n 3, 1) := by decide +kernel
theorem dL_law_954 : decode bL_law 954 = .ok (.iconst 0, 1) := by decide +kernel
theorem dL_law_955 : decode bL_law 955 = .ok (.laload, 1) := by decide +kernel
theorem dL_law_956 : decode bL_law 956 = .ok (.iload 7, 2) := by decide +kernel
theorem dL_law_958 : decode bL_law 958 = .ok (.i2l, 1) := by decide +kernel
theorem dL_law_959 : decode bL_law 959 = .ok (.lcmp, 1) := by decide +kernel
theorem dL_law_960 : decode bL_law 960 = .ok (.ifCond .eq 5, 3) := by decide +kernel
theorem dL_law_963 : decode bL_law 963 = .ok (.iconst 0, 1) := by decide +kernel
theorem dL_law_964 : decode bL_law 964 = .ok (.ireturn, 1) := by decide +kernel
theorem dL_law_965 : decode bL_law 965 = .ok (.goto 103, 3) := by decide +kernel
theorem dL_law_968 : decode bL_law 968 = .ok (.aload_n 1, 1) := by decide +kernel
theorem dL_law_969 : decode bL_law 969 = .ok (.aload_n 3, 1) := by decide +kernel
theorem dL_law_970 : decode bL_law 970 = .ok (.invokestatic 136, 3) := by decide +kernel
theorem dL_law_973 : decode bL_law 973 = .ok (.istore 6, 2) := by decide +kernel
theorem dL_law_975 : decode bL_law 975 = .ok (.aload_n 2, 1) := by decide +kernel
theorem dL_law_976 : decode bL_law 976 = .ok (.invokevirtual 138, 3) := by decide +kernel
theorem dL_law_979 : decode bL_law 979 = .ok (.istore 7, 2) := by decide +kernel
theorem dL_law_981 : decode bL_law 981 = .ok (.aload_n 2, 1) := by decide +kernel
theorem dL_law_982 : decode bL_law 982 = .ok (.invokevirtual 86, 3) := by decide +kernel
theorem dL_law_985 : decode bL_law 985 = .ok (.iload 6, 2) := by decide +kernel
theorem dL_law_987 : decode bL_law 987 = .ok (.if_icmp .eq 5, 3) := by decide +kernel
theorem dL_law_990 : decode bL_law 990 = .ok (.iconst 0, 1) := by decide +kernel
theorem dL_law_991 : decode bL_law 991 = .ok (.ireturn, 1) := by decide +kernel
theorem dL_law_992 : decode bL_law 992 = .ok (.iload 6, 2) := by decide +kernel
theorem dL_law_994 : decode bL_law 994 = .ok (.ifCond .ne 15, 3) := by decide +kernel
theorem dL_law_997 : decode bL_law 997 = .ok (.aload_n 3, 1) := by decide +kernel
theorem dL_law_998 : decode bL_law 998 = .ok (.iconst 0, 1) := by decide +kernel
theorem dL_law_999 : decode bL_law 999 = .ok (.laload, 1) := by decide +kernel
theorem dL_law_1000 : decode bL_law 1000 = .ok (.iload 7, 2) := by decide +kernel
theorem dL_law_1002 : decode bL_law 1002 = .ok (.i2l, 1) := by decide +kernel
theorem dL_law_1003 : decode bL_law 1003 = .ok (.lcmp, 1) := by decide +kernel
theorem dL_law_1004 : decode bL_law 1004 = .ok (.ifCond .eq 5, 3) := by decide +kernel
theorem dL_law_1007 : decode bL_law 1007 = .ok (.iconst 0, 1) := by decide +kernel
theorem dL_law_1008 : decode bL_law 1008 = .ok (.ireturn, 1) := by decide +kernel
theorem dL_law_1009 : decode bL_law 1009 = .ok (.goto 59, 3) := by decide +kernel
theorem dL_law_1012 : decode bL_law 1012 = .ok (.aload_n 1, 1) := by decide +kernel
theorem dL_law_1013 : decode bL_law 1013 = .ok (.aload_n 0, 1) := by decide +kernel
theorem dL_law_1014 : decode bL_law 1014 = .ok (.iload 5, 2) := by decide +kernel
theorem dL_law_1016 : decode bL_law 1016 = .ok (.iconst 1, 1) := by decide +kernel
theorem dL_law_1017 : decode bL_law 1017 = .ok (.iadd, 1) := by decide +kernel
theorem dL_law_1018 : decode bL_law 1018 = .ok (.iaload, 1) := by decide +kernel
theorem dL_law_1019 : decode bL_law 1019 = .ok (.aload_n 3, 1) := by decide +kernel
theorem dL_law_1020 : decode bL_law 1020 = .ok (.invokestatic 139, 3) := by decide +kernel
theorem dL_law_1023 : decode bL_law 1023 = .ok (.istore 6, 2) := by decide +kernel
theorem dL_law_1025 : decode bL_law 1025 = .ok (.aload_n 2, 1) := by decide +kernel
theorem dL_law_1026 : decode bL_law 1026 = .ok (.aload_n 0, 1) := by decide +kernel
theorem dL_law_1027 : decode bL_law 1027 = .ok (.iload 5, 2) := by decide +kernel
theorem dL_law_1029 : decode bL_law 1029 = .ok (.iconst 1, 1) := by decide +kernel
theorem dL_law_1030 : decode bL_law 1030 = .ok (.iadd, 1) := by decide +kernel
theorem dL_law_1031 : decode bL_law 1031 = .ok (.iaload, 1) := by decide +kernel
theorem dL_law_1032 : decode bL_law 1032 = .ok (.invokevirtual 141, 3) := by decide +kernel
theorem dL_law_1035 : decode bL_law 1035 = .ok (.istore 7, 2) := by decide +kernel
theorem dL_law_1037 : decode bL_law 1037 = .ok (.aload_n 2, 1) := by decide +kernel
theorem dL_law_1038 : decode bL_law 1038 = .ok (.invokevirtual 86, 3) := by decide +kernel
theorem dL_law_1041 : decode bL_law 1041 = .ok (.iload 6, 2) := by decide +kernel
theorem dL_law_1043 : decode bL_law 1043 = .ok (.if_icmp .eq 5, 3) := by decide +kernel
theorem dL_law_1046 : decode bL_law 1046 = .ok (.iconst 0, 1) := by decide +kernel
theorem dL_law_1047 : decode bL_law 1047 = .ok (.ireturn, 1) := by decide +kernel
theorem dL_law_1048 : decode bL_law 1048 = .ok (.iload 6, 2) := by decide +kernel
theorem dL_law_1050 : decode bL_law 1050 = .ok (.ifCond .ne 15, 3) := by decide +kernel
theorem dL_law_1053 : decode bL_law 1053 = .ok (.aload_n 3, 1) := by decide +kernel
theorem dL_law_1054 : decode bL_law 1054 = .ok (.iconst 0, 1) := by decide +kernel
theorem dL_law_1055 : decode bL_law 1055 = .ok (.laload, 1) := by decide +kernel
theorem dL_law_1056 : decode bL_law 1056 = .ok (.iload 7, 2) := by decide +kernel
theorem dL_law_1058 : decode bL_law 1058 = .ok (.i2l, 1) := by decide +kernel
theorem dL_law_1059 : decode bL_law 1059 = .ok (.lcmp, 1) := by decide +kernel
theorem dL_law_1060 : decode bL_law 1060 = .ok (.ifCond .eq 5, 3) := by decide +kernel
theorem dL_law_1063 : decode bL_law 1063 = .ok (.iconst 0, 1) := by decide +kernel
theorem dL_law_1064 : decode bL_law 1064 = .ok (.ireturn, 1) := by decide +kernel
theorem dL_law_1065 : decode bL_law 1065 = .ok (.goto 3, 3) := by decide +kernel
theorem dL_law_1068 : decode bL_law 1068 = .ok (.iinc 5 5, 3) := by decide +kernel
theorem dL_law_1071 : decode bL_law 1071 = .ok (.goto (-1043), 3) := by decide +kernel
theorem dL_law_1074 : decode bL_law 1074 = .ok (.iconst 1, 1) := by decide +kernel
theorem dL_law_1075 : decode bL_law 1075 = .ok (.ireturn, 1) := by decide +kernel
