theorem dX0_clear_0 : decode cX0_clear 0 = .ok (.aload_n 0, 1) := by decide +kernel
theorem dX0_clear_1 : decode cX0_clear 1 = .ok (.iconst 0, 1) := by decide +kernel
theorem dX0_clear_2 : decode cX0_clear 2 = .ok (.putfield 9, 3) := by decide +kernel
theorem dX0_clear_5 : decode cX0_clear 5 = .ok (.aload_n 0, 1) := by decide +kernel
theorem dX0_clear_6 : decode cX0_clear 6 = .ok (.dup, 1) := by decide +kernel
theorem dX0_clear_7 : decode cX0_clear 7 = .ok (.getfield 13, 3) := by decide +kernel
theorem dX0_clear_10 : decode cX0_clear 10 = .ok (.iconst 1, 1) := by decide +kernel
theorem dX0_clear_11 : decode cX0_clear 11 = .ok (.iadd, 1) := by decide +kernel
theorem dX0_clear_12 : decode cX0_clear 12 = .ok (.putfield 13, 3) := by decide +kernel
theorem dX0_clear_15 : decode cX0_clear 15 = .ok (.aload_n 0, 1) := by decide +kernel
theorem dX0_clear_16 : decode cX0_clear 16 = .ok (.getfield 13, 3) := by decide +kernel
theorem dX0_clear_19 : decode cX0_clear 19 = .ok (.ldc 27, 2) := by decide +kernel
theorem dX0_clear_21 : decode cX0_clear 21 = .ok (.if_icmp .le 16, 3) := by decide +kernel
theorem dX0_clear_24 : decode cX0_clear 24 = .ok (.aload_n 0, 1) := by decide +kernel
theorem dX0_clear_25 : decode cX0_clear 25 = .ok (.getfield 24, 3) := by decide +kernel
theorem dX0_clear_28 : decode cX0_clear 28 = .ok (.iconst 0, 1) := by decide +kernel
theorem dX0_clear_29 : decode cX0_clear 29 = .ok (.invokestatic 28, 3) := by decide +kernel
theorem dX0_clear_32 : decode cX0_clear 32 = .ok (.aload_n 0, 1) := by decide +kernel
theorem dX0_clear_33 : decode cX0_clear 33 = .ok (.iconst 1, 1) := by decide +kernel
theorem dX0_clear_34 : decode cX0_clear 34 = .ok (.putfield 13, 3) := by decide +kernel
theorem dX0_clear_37 : decode cX0_clear 37 = .ok (.return_, 1) := by decide +kernel
theorem dX0_find_0 : decode cX0_find 0 = .ok (.aload_n 0, 1) := by decide +kernel
theorem dX0_find_1 : decode cX0_find 1 = .ok (.lload_n 1, 1) := by decide +kernel
theorem dX0_find_2 : decode cX0_find 2 = .ok (.iload_n 3, 1) := by decide +kernel
theorem dX0_find_3 : decode cX0_find 3 = .ok (.invokevirtual 34, 3) := by decide +kernel
theorem dX0_find_6 : decode cX0_find 6 = .ok (.istore 4, 2) := by decide +kernel
theorem dX0_find_8 : decode cX0_find 8 = .ok (.iload 4, 2) := by decide +kernel
theorem dX0_find_10 : decode cX0_find 10 = .ok (.ifCond .lt 24, 3) := by decide +kernel
theorem dX0_find_13 : decode cX0_find 13 = .ok (.aload_n 0, 1) := by decide +kernel
theorem dX0_find_14 : decode cX0_find 14 = .ok (.getfield 24, 3) := by decide +kernel
theorem dX0_find_17 : decode cX0_find 17 = .ok (.iload 4, 2) := by decide +kernel
theorem dX0_find_19 : decode cX0_find 19 = .ok (.iaload, 1) := by decide +kernel
theorem dX0_find_20 : decode cX0_find 20 = .ok (.bipush 12, 2) := by decide +kernel
theorem dX0_find_22 : decode cX0_find 22 = .ok (.iushr, 1) := by decide +kernel
theorem dX0_find_23 : decode cX0_find 23 = .ok (.aload_n 0, 1) := by decide +kernel
theorem dX0_find_24 : decode cX0_find 24 = .ok (.getfield 13, 3) := by decide +kernel
theorem dX0_find_27 : decode cX0_find 27 = .ok (.if_icmp .ne 7, 3) := by decide +kernel
theorem dX0_find_30 : decode cX0_find 30 = .ok (.iconst 1, 1) := by decide +kernel
theorem dX0_find_31 : decode cX0_find 31 = .ok (.goto 4, 3) := by decide +kernel
theorem dX0_find_34 : decode cX0_find 34 = .ok (.iconst 0, 1) := by decide +kernel
theorem dX0_find_35 : decode cX0_find 35 = .ok (.istore 5, 2) := by decide +kernel
theorem dX0_find_37 : decode cX0_find 37 = .ok (.iload 5, 2) := by decide +kernel
theorem dX0_find_39 : decode cX0_find 39 = .ok (.ifCond .eq 17, 3) := by decide +kernel
theorem dX0_find_42 : decode cX0_find 42 = .ok (.aload_n 0, 1) := by decide +kernel
theorem dX0_find_43 : decode cX0_find 43 = .ok (.getfield 24, 3) := by decide +kernel
theorem dX0_find_46 : decode cX0_find 46 = .ok (.iload 4, 2) := by decide +kernel
theorem dX0_find_48 : decode cX0_find 48 = .ok (.iaload, 1) := by decide +kernel
theorem dX0_find_49 : decode cX0_find 49 = .ok (.sipush 4095, 3) := by decide +kernel
theorem dX0_find_52 : decode cX0_find 52 = .ok (.iand, 1) := by decide +kernel
theorem dX0_find_53 : decode cX0_find 53 = .ok (.goto 4, 3) := by decide +kernel
theorem dX0_find_56 : decode cX0_find 56 = .ok (.iconst (-1), 1) := by decide +kernel
theorem dX0_find_57 : decode cX0_find 57 = .ok (.ireturn, 1) := by decide +kernel
theorem dX0_add_0 : decode cX0_add 0 = .ok (.aload_n 0, 1) := by decide +kernel
theorem dX0_add_1 : decode cX0_add 1 = .ok (.lload_n 1, 1) := by decide +kernel
theorem dX0_add_2 : decode cX0_add 2 = .ok (.iload_n 3, 1) := by decide +kernel
theorem dX0_add_3 : decode cX0_add 3 = .ok (.invokevirtual 34, 3) := by decide +kernel
theorem dX0_add_6 : decode cX0_add 6 = .ok (.istore 4, 2) := by decide +kernel
theorem dX0_add_8 : decode cX0_add 8 = .ok (.iload 4, 2) := by decide +kernel
theorem dX0_add_10 : decode cX0_add 10 = .ok (.ifCond .ge 5, 3) := by decide +kernel
theorem dX0_add_13 : decode cX0_add 13 = .ok (.iconst (-1), 1) := by decide +kernel
theorem dX0_add_14 : decode cX0_add 14 = .ok (.ireturn, 1) := by decide +kernel
theorem dX0_add_15 : decode cX0_add 15 = .ok (.aload_n 0, 1) := by decide +kernel
theorem dX0_add_16 : decode cX0_add 16 = .ok (.getfield 24, 3) := by decide +kernel
theorem dX0_add_19 : decode cX0_add 19 = .ok (.iload 4, 2) := by decide +kernel
theorem dX0_add_21 : decode cX0_add 21 = .ok (.iaload, 1) := by decide +kernel
theorem dX0_add_22 : decode cX0_add 22 = .ok (.bipush 12, 2) := by decide +kernel
theorem dX0_add_24 : decode cX0_add 24 = .ok (.iushr, 1) := by decide +kernel
theorem dX0_add_25 : decode cX0_add 25 = .ok (.aload_n 0, 1) := by decide +kernel
theorem dX0_add_26 : decode cX0_add 26 = .ok (.getfield 13, 3) := by decide +kernel
theorem dX0_add_29 : decode cX0_add 29 = .ok (.if_icmp .ne 15, 3) := by decide +kernel
theorem dX0_add_32 : decode cX0_add 32 = .ok (.aload_n 0, 1) := by decide +kernel
theorem dX0_add_33 : decode cX0_add 33 = .ok (.getfield 24, 3) := by decide +kernel
theorem dX0_add_36 : decode cX0_add 36 = .ok (.iload 4, 2) := by decide +kernel
theorem dX0_add_38 : decode cX0_add 38 = .ok (.iaload, 1) := by decide +kernel
theorem dX0_add_39 : decode cX0_add 39 = .ok (.sipush 4095, 3) := by decide +kernel
theorem dX0_add_42 : decode cX0_add 42 = .ok (.iand, 1) := by decide +kernel
theorem dX0_add_43 : decode cX0_add 43 = .ok (.ireturn, 1) := by decide +kernel
theorem dX0_add_44 : decode cX0_add 44 = .ok (.aload_n 0, 1) := by decide +kernel
theorem dX0_add_45 : decode cX0_add 45 = .ok (.getfield 9, 3) := by decide +kernel
theorem dX0_add_48 : decode cX0_add 48 = .ok (.aload_n 0, 1) := by decide +kernel
theorem dX0_add_49 : decode cX0_add 49 = .ok (.getfield 16, 3) := by decide +kernel
theorem dX0_add_52 : decode cX0_add 52 = .ok (.arraylength, 1) := by decide +kernel
theorem dX0_add_53 : decode cX0_add 53 = .ok (.if_icmp .lt 5, 3) := by decide +kernel
theorem dX0_add_56 : decode cX0_add 56 = .ok (.iconst (-1), 1) := by decide +kernel
theorem dX0_add_57 : decode cX0_add 57 = .ok (.ireturn, 1) := by decide +kernel
theorem dX0_add_58 : decode cX0_add 58 = .ok (.aload_n 0, 1) := by decide +kernel
theorem dX0_add_59 : decode cX0_add 59 = .ok (.getfield 16, 3) := by decide +kernel
theorem dX0_add_62 : decode cX0_add 62 = .ok (.aload_n 0, 1) := by decide +kernel
theorem dX0_add_63 : decode cX0_add 63 = .ok (.getfield 9, 3) := by decide +kernel
theorem dX0_add_66 : decode cX0_add 66 = .ok (.lload_n 1, 1) := by decide +kernel
theorem dX0_add_67 : decode cX0_add 67 = .ok (.lastore, 1) := by decide +kernel
theorem dX0_add_68 : decode cX0_add 68 = .ok (.aload_n 0, 1) := by decide +kernel
theorem dX0_add_69 : decode cX0_add 69 = .ok (.getfield 20, 3) := by decide +kernel
theorem dX0_add_72 : decode cX0_add 72 = .ok (.aload_n 0, 1) := by decide +kernel
theorem dX0_add_73 : decode cX0_add 73 = .ok (.getfield 9, 3) := by decide +kernel
theorem dX0_add_76 : decode cX0_add 76 = .ok (.iload_n 3, 1) := by decide +kernel
theorem dX0_add_77 : decode cX0_add 77 = .ok (.iastore, 1) := by decide +kernel
theorem dX0_add_78 : decode cX0_add 78 = .ok (.aload_n 0, 1) := by decide +kernel
theorem dX0_add_79 : decode cX0_add 79 = .ok (.getfield 24, 3) := by decide +kernel
theorem dX0_add_82 : decode cX0_add 82 = .ok (.iload 4, 2) := by decide +kernel
theorem dX0_add_84 : decode cX0_add 84 = .ok (.aload_n 0, 1) := by decide +kernel
theorem dX0_add_85 : decode cX0_add 85 = .ok (.getfield 13, 3) := by decide +kernel
theorem dX0_add_88 : decode cX0_add 88 = .ok (.bipush 12, 2) := by decide +kernel
theorem dX0_add_90 : decode cX0_add 90 = .ok (.ishl, 1) := by decide +kernel
theorem dX0_add_91 : decode cX0_add 91 = .ok (.aload_n 0, 1) := by decide +kernel
theorem dX0_add_92 : decode cX0_add 92 = .ok (.getfield 9, 3) := by decide +kernel
theorem dX0_add_95 : decode cX0_add 95 = .ok (.ior, 1) := by decide +kernel
theorem dX0_add_96 : decode cX0_add 96 = .ok (.iastore, 1) := by decide +kernel
theorem dX0_add_97 : decode cX0_add 97 = .ok (.aload_n 0, 1) := by decide +kernel
theorem dX0_add_98 : decode cX0_add 98 = .ok (.dup, 1) := by decide +kernel
theorem dX0_add_99 : decode cX0_add 99 = .ok (.getfield 9, 3) := by decide +kernel
theorem dX0_add_102 : decode cX0_add 102 = .ok (.iconst 1, 1) := by decide +kernel
theorem dX0_add_103 : decode cX0_add 103 = .ok (.iadd, 1) := by decide +kernel
theorem dX0_add_104 : decode cX0_add 104 = .ok (.putfield 9, 3) := by decide +kernel
theorem dX0_add_107 : decode cX0_add 107 = .ok (.aload_n 0, 1) := by decide +kernel
theorem dX0_add_108 : decode cX0_add 108 = .ok (.getfield 9, 3) := by decide +kernel
theorem dX0_add_111 : decode cX0_add 111 = .ok (.iconst 1, 1) := by decide +kernel
theorem dX0_add_112 : decode cX0_add 112 = .ok (.isub, 1) := by decide +kernel
theorem dX0_add_113 : decode cX0_add 113 = .ok (.ireturn, 1) := by decide +kernel
theorem dX0_slotOf_0 : decode cX0_slotOf 0 = .ok (.aload_n 0, 1) := by decide +kernel
theorem dX0_slotOf_1 : decode cX0_slotOf 1 = .ok (.getfield 24, 3) := by decide +kernel
theorem dX0_slotOf_4 : decode cX0_slotOf 4 = .ok (.arraylength, 1) := by decide +kernel
theorem dX0_slotOf_5 : decode cX0_slotOf 5 = .ok (.iconst 1, 1) := by decide +kernel
theorem dX0_slotOf_6 : decode cX0_slotOf 6 = .ok (.isub, 1) := by decide +kernel
theorem dX0_slotOf_7 : decode cX0_slotOf 7 = .ok (.istore 4, 2) := by decide +kernel
theorem dX0_slotOf_9 : decode cX0_slotOf 9 = .ok (.lload_n 1, 1) := by decide +kernel
theorem dX0_slotOf_10 : decode cX0_slotOf 10 = .ok (.iload_n 3, 1) := by decide +kernel
theorem dX0_slotOf_11 : decode cX0_slotOf 11 = .ok (.i2l, 1) := by decide +kernel
theorem dX0_slotOf_12 : decode cX0_slotOf 12 = .ok (.ladd, 1) := by decide +kernel
theorem dX0_slotOf_13 : decode cX0_slotOf 13 = .ok (.ldc2_w 38, 3) := by decide +kernel
theorem dX0_slotOf_16 : decode cX0_slotOf 16 = .ok (.lmul, 1) := by decide +kernel
theorem dX0_slotOf_17 : decode cX0_slotOf 17 = .ok (.bipush 40, 2) := by decide +kernel
theorem dX0_slotOf_19 : decode cX0_slotOf 19 = .ok (.lushr, 1) := by decide +kernel
theorem dX0_slotOf_20 : decode cX0_slotOf 20 = .ok (.l2i, 1) := by decide +kernel
theorem dX0_slotOf_21 : decode cX0_slotOf 21 = .ok (.iload 4, 2) := by decide +kernel
theorem dX0_slotOf_23 : decode cX0_slotOf 23 = .ok (.iand, 1) := by decide +kernel
theorem dX0_slotOf_24 : decode cX0_slotOf 24 = .ok (.istore 5, 2) := by decide +kernel
theorem dX0_slotOf_26 : decode cX0_slotOf 26 = .ok (.iconst 0, 1) := by decide +kernel
theorem dX0_slotOf_27 : decode cX0_slotOf 27 = .ok (.istore 6, 2) := by decide +kernel
theorem dX0_slotOf_29 : decode cX0_slotOf 29 = .ok (.iload 6, 2) := by decide +kernel
theorem dX0_slotOf_31 : decode cX0_slotOf 31 = .ok (.iload 4, 2) := by decide +kernel
theorem dX0_slotOf_33 : decode cX0_slotOf 33 = .ok (.if_icmp .gt 77, 3) := by decide +kernel
theorem dX0_slotOf_36 : decode cX0_slotOf 36 = .ok (.aload_n 0, 1) := by decide +kernel
theorem dX0_slotOf_37 : decode cX0_slotOf 37 = .ok (.getfield 24, 3) := by decide +kernel
theorem dX0_slotOf_40 : decode cX0_slotOf 40 = .ok (.iload 5, 2) := by decide +kernel
theorem dX0_slotOf_42 : decode cX0_slotOf 42 = .ok (.iaload, 1) := by decide +kernel
theorem dX0_slotOf_43 : decode cX0_slotOf 43 = .ok (.bipush 12, 2) := by decide +kernel
theorem dX0_slotOf_45 : decode cX0_slotOf 45 = .ok (.iushr, 1) := by decide +kernel
theorem dX0_slotOf_46 : decode cX0_slotOf 46 = .ok (.aload_n 0, 1) := by decide +kernel
theorem dX0_slotOf_47 : decode cX0_slotOf 47 = .ok (.getfield 13, 3) := by decide +kernel
theorem dX0_slotOf_50 : decode cX0_slotOf 50 = .ok (.if_icmp .eq 6, 3) := by decide +kernel
theorem dX0_slotOf_53 : decode cX0_slotOf 53 = .ok (.iload 5, 2) := by decide +kernel
theorem dX0_slotOf_55 : decode cX0_slotOf 55 = .ok (.ireturn, 1) := by decide +kernel
theorem dX0_slotOf_56 : decode cX0_slotOf 56 = .ok (.aload_n 0, 1) := by decide +kernel
theorem dX0_slotOf_57 : decode cX0_slotOf 57 = .ok (.getfield 24, 3) := by decide +kernel
theorem dX0_slotOf_60 : decode cX0_slotOf 60 = .ok (.iload 5, 2) := by decide +kernel
theorem dX0_slotOf_62 : decode cX0_slotOf 62 = .ok (.iaload, 1) := by decide +kernel
theorem dX0_slotOf_63 : decode cX0_slotOf 63 = .ok (.sipush 4095, 3) := by decide +kernel
theorem dX0_slotOf_66 : decode cX0_slotOf 66 = .ok (.iand, 1) := by decide +kernel
theorem dX0_slotOf_67 : decode cX0_slotOf 67 = .ok (.istore 7, 2) := by decide +kernel
theorem dX0_slotOf_69 : decode cX0_slotOf 69 = .ok (.aload_n 0, 1) := by decide +kernel
theorem dX0_slotOf_70 : decode cX0_slotOf 70 = .ok (.getfield 16, 3) := by decide +kernel
theorem dX0_slotOf_73 : decode cX0_slotOf 73 = .ok (.iload 7, 2) := by decide +kernel
theorem dX0_slotOf_75 : decode cX0_slotOf 75 = .ok (.laload, 1) := by decide +kernel
theorem dX0_slotOf_76 : decode cX0_slotOf 76 = .ok (.lload_n 1, 1) := by decide +kernel
theorem dX0_slotOf_77 : decode cX0_slotOf 77 = .ok (.lcmp, 1) := by decide +kernel
theorem dX0_slotOf_78 : decode cX0_slotOf 78 = .ok (.ifCond .ne 17, 3) := by decide +kernel
theorem dX0_slotOf_81 : decode cX0_slotOf 81 = .ok (.aload_n 0, 1) := by decide +kernel
theorem dX0_slotOf_82 : decode cX0_slotOf 82 = .ok (.getfield 20, 3) := by decide +kernel
theorem dX0_slotOf_85 : decode cX0_slotOf 85 = .ok (.iload 7, 2) := by decide +kernel
theorem dX0_slotOf_87 : decode cX0_slotOf 87 = .ok (.iaload, 1) := by decide +kernel
theorem dX0_slotOf_88 : decode cX0_slotOf 88 = .ok (.iload_n 3, 1) := by decide +kernel
theorem dX0_slotOf_89 : decode cX0_slotOf 89 = .ok (.if_icmp .ne 6, 3) := by decide +kernel
theorem dX0_slotOf_92 : decode cX0_slotOf 92 = .ok (.iload 5, 2) := by decide +kernel
theorem dX0_slotOf_94 : decode cX0_slotOf 94 = .ok (.ireturn, 1) := by decide +kernel
theorem dX0_slotOf_95 : decode cX0_slotOf 95 = .ok (.iload 5, 2) := by decide +kernel
theorem dX0_slotOf_97 : decode cX0_slotOf 97 = .ok (.iconst 1, 1) := by decide +kernel
theorem dX0_slotOf_98 : decode cX0_slotOf 98 = .ok (.iadd, 1) := by decide +kernel
theorem dX0_slotOf_99 : decode cX0_slotOf 99 = .ok (.iload 4, 2) := by decide +kernel
theorem dX0_slotOf_101 : decode cX0_slotOf 101 = .ok (.iand, 1) := by decide +kernel
theorem dX0_slotOf_102 : decode cX0_slotOf 102 = .ok (.istore 5, 2) := by decide +kernel
theorem dX0_slotOf_104 : decode cX0_slotOf 104 = .ok (.iinc 6 1, 3) := by decide +kernel
theorem dX0_slotOf_107 : decode cX0_slotOf 107 = .ok (.goto (-78), 3) := by decide +kernel
theorem dX0_slotOf_110 : decode cX0_slotOf 110 = .ok (.iconst (-1), 1) := by decide +kernel
theorem dX0_slotOf_111 : decode cX0_slotOf 111 = .ok (.ireturn, 1) := by decide +kernel
theorem dX1_begin_0 : decode cX1_begin 0 = .ok (.aload_n 0, 1) := by decide +kernel
theorem dX1_begin_1 : decode cX1_begin 1 = .ok (.iload_n 1, 1) := by decide +kernel
theorem dX1_begin_2 : decode cX1_begin 2 = .ok (.putfield 28, 3) := by decide +kernel
theorem dX1_begin_5 : decode cX1_begin 5 = .ok (.aload_n 0, 1) := by decide +kernel
theorem dX1_begin_6 : decode cX1_begin 6 = .ok (.iconst 0, 1) := by decide +kernel
theorem dX1_begin_7 : decode cX1_begin 7 = .ok (.putfield 24, 3) := by decide +kernel
theorem dX1_begin_10 : decode cX1_begin 10 = .ok (.aload_n 0, 1) := by decide +kernel
theorem dX1_begin_11 : decode cX1_begin 11 = .ok (.getfield 14, 3) := by decide +kernel
theorem dX1_begin_14 : decode cX1_begin 14 = .ok (.invokevirtual 31, 3) := by decide +kernel
theorem dX1_begin_17 : decode cX1_begin 17 = .ok (.lconst 0, 1) := by decide +kernel
theorem dX1_begin_18 : decode cX1_begin 18 = .ok (.lstore_n 2, 1) := by decide +kernel
theorem dX1_begin_19 : decode cX1_begin 19 = .ok (.iconst 0, 1) := by decide +kernel
theorem dX1_begin_20 : decode cX1_begin 20 = .ok (.istore 4, 2) := by decide +kernel
theorem dX1_begin_22 : decode cX1_begin 22 = .ok (.iload 4, 2) := by decide +kernel
theorem dX1_begin_24 : decode cX1_begin 24 = .ok (.aload_n 0, 1) := by decide +kernel
theorem dX1_begin_25 : decode cX1_begin 25 = .ok (.getfield 28, 3) := by decide +kernel
theorem dX1_begin_28 : decode cX1_begin 28 = .ok (.if_icmp .ge 20, 3) := by decide +kernel
theorem dX1_begin_31 : decode cX1_begin 31 = .ok (.lload_n 2, 1) := by decide +kernel
theorem dX1_begin_32 : decode cX1_begin 32 = .ok (.iload 4, 2) := by decide +kernel
theorem dX1_begin_34 : decode cX1_begin 34 = .ok (.i2l, 1) := by decide +kernel
theorem dX1_begin_35 : decode cX1_begin 35 = .ok (.iconst 4, 1) := by decide +kernel
theorem dX1_begin_36 : decode cX1_begin 36 = .ok (.iload 4, 2) := by decide +kernel
theorem dX1_begin_38 : decode cX1_begin 38 = .ok (.imul, 1) := by decide +kernel
theorem dX1_begin_39 : decode cX1_begin 39 = .ok (.lshl, 1) := by decide +kernel
theorem dX1_begin_40 : decode cX1_begin 40 = .ok (.lor, 1) := by decide +kernel
theorem dX1_begin_41 : decode cX1_begin 41 = .ok (.lstore_n 2, 1) := by decide +kernel
theorem dX1_begin_42 : decode cX1_begin 42 = .ok (.iinc 4 1, 3) := by decide +kernel
theorem dX1_begin_45 : decode cX1_begin 45 = .ok (.goto (-23), 3) := by decide +kernel
theorem dX1_begin_48 : decode cX1_begin 48 = .ok (.aload_n 0, 1) := by decide +kernel
theorem dX1_begin_49 : decode cX1_begin 49 = .ok (.getfield 14, 3) := by decide +kernel
theorem dX1_begin_52 : decode cX1_begin 52 = .ok (.lload_n 2, 1) := by decide +kernel
theorem dX1_begin_53 : decode cX1_begin 53 = .ok (.iconst 0, 1) := by decide +kernel
theorem dX1_begin_54 : decode cX1_begin 54 = .ok (.invokevirtual 34, 3) := by decide +kernel
theorem dX1_begin_57 : decode cX1_begin 57 = .ok (.pop, 1) := by decide +kernel
theorem dX1_begin_58 : decode cX1_begin 58 = .ok (.return_, 1) := by decide +kernel
theorem dX1_bringIn_0 : decode cX1_bringIn 0 = .ok (.aload_n 0, 1) := by decide +kernel
theorem dX1_bringIn_1 : decode cX1_bringIn 1 = .ok (.getfield 14, 3) := by decide +kernel
theorem dX1_bringIn_4 : decode cX1_bringIn 4 = .ok (.lload_n 1, 1) := by decide +kernel
theorem dX1_bringIn_5 : decode cX1_bringIn 5 = .ok (.iconst 0, 1) := by decide +kernel
theorem dX1_bringIn_6 : decode cX1_bringIn 6 = .ok (.invokevirtual 38, 3) := by decide +kernel
theorem dX1_bringIn_9 : decode cX1_bringIn 9 = .ok (.ifCond .ge 12, 3) := by decide +kernel
theorem dX1_bringIn_12 : decode cX1_bringIn 12 = .ok (.aload_n 0, 1) := by decide +kernel
theorem dX1_bringIn_13 : decode cX1_bringIn 13 = .ok (.getfield 24, 3) := by decide +kernel
theorem dX1_bringIn_16 : decode cX1_bringIn 16 = .ok (.bipush 8, 2) := by decide +kernel
theorem dX1_bringIn_18 : decode cX1_bringIn 18 = .ok (.if_icmp .lt 5, 3) := by decide +kernel
theorem dX1_bringIn_21 : decode cX1_bringIn 21 = .ok (.iconst 1, 1) := by decide +kernel
theorem dX1_bringIn_22 : decode cX1_bringIn 22 = .ok (.ireturn, 1) := by decide +kernel
theorem dX1_bringIn_23 : decode cX1_bringIn 23 = .ok (.aload_n 0, 1) := by decide +kernel
theorem dX1_bringIn_24 : decode cX1_bringIn 24 = .ok (.getfield 20, 3) := by decide +kernel
theorem dX1_bringIn_27 : decode cX1_bringIn 27 = .ok (.aload_n 0, 1) := by decide +kernel
theorem dX1_bringIn_28 : decode cX1_bringIn 28 = .ok (.dup, 1) := by decide +kernel
theorem dX1_bringIn_29 : decode cX1_bringIn 29 = .ok (.getfield 24, 3) := by decide +kernel
theorem dX1_bringIn_32 : decode cX1_bringIn 32 = .ok (.dup_x1, 1) := by decide +kernel
theorem dX1_bringIn_33 : decode cX1_bringIn 33 = .ok (.iconst 1, 1) := by decide +kernel
theorem dX1_bringIn_34 : decode cX1_bringIn 34 = .ok (.iadd, 1) := by decide +kernel
theorem dX1_bringIn_35 : decode cX1_bringIn 35 = .ok (.putfield 24, 3) := by decide +kernel
theorem dX1_bringIn_38 : decode cX1_bringIn 38 = .ok (.lload_n 1, 1) := by decide +kernel
theorem dX1_bringIn_39 : decode cX1_bringIn 39 = .ok (.lastore, 1) := by decide +kernel
theorem dX1_bringIn_40 : decode cX1_bringIn 40 = .ok (.aload_n 0, 1) := by decide +kernel
theorem dX1_bringIn_41 : decode cX1_bringIn 41 = .ok (.getfield 14, 3) := by decide +kernel
theorem dX1_bringIn_44 : decode cX1_bringIn 44 = .ok (.getfield 41, 3) := by decide +kernel
theorem dX1_bringIn_47 : decode cX1_bringIn 47 = .ok (.iconst 1, 1) := by decide +kernel
theorem dX1_bringIn_48 : decode cX1_bringIn 48 = .ok (.invokestatic 44, 3) := by decide +kernel
theorem dX1_bringIn_51 : decode cX1_bringIn 51 = .ok (.istore_n 3, 1) := by decide +kernel
theorem dX1_bringIn_52 : decode cX1_bringIn 52 = .ok (.iconst 0, 1) := by decide +kernel
theorem dX1_bringIn_53 : decode cX1_bringIn 53 = .ok (.istore 4, 2) := by decide +kernel
theorem dX1_bringIn_55 : decode cX1_bringIn 55 = .ok (.iload 4, 2) := by decide +kernel
theorem dX1_bringIn_57 : decode cX1_bringIn 57 = .ok (.aload_n 0, 1) := by decide +kernel
theorem dX1_bringIn_58 : decode cX1_bringIn 58 = .ok (.getfield 14, 3) := by decide +kernel
theorem dX1_bringIn_61 : decode cX1_bringIn 61 = .ok (.getfield 41, 3) := by decide +kernel
theorem dX1_bringIn_64 : decode cX1_bringIn 64 = .ok (.if_icmp .ge 86, 3) := by decide +kernel
theorem dX1_bringIn_67 : decode cX1_bringIn 67 = .ok (.iload 4, 2) := by decide +kernel
theorem dX1_bringIn_69 : decode cX1_bringIn 69 = .ok (.sipush 3000, 3) := by decide +kernel
theorem dX1_bringIn_72 : decode cX1_bringIn 72 = .ok (.if_icmp .ge 78, 3) := by decide +kernel
theorem dX1_bringIn_75 : decode cX1_bringIn 75 = .ok (.iconst 0, 1) := by decide +kernel
theorem dX1_bringIn_76 : decode cX1_bringIn 76 = .ok (.istore 5, 2) := by decide +kernel
theorem dX1_bringIn_78 : decode cX1_bringIn 78 = .ok (.iload 5, 2) := by decide +kernel
theorem dX1_bringIn_80 : decode cX1_bringIn 80 = .ok (.aload_n 0, 1) := by decide +kernel
theorem dX1_bringIn_81 : decode cX1_bringIn 81 = .ok (.getfield 24, 3) := by decide +kernel
theorem dX1_bringIn_84 : decode cX1_bringIn 84 = .ok (.if_icmp .ge 57, 3) := by decide +kernel
theorem dX1_bringIn_87 : decode cX1_bringIn 87 = .ok (.aload_n 0, 1) := by decide +kernel
theorem dX1_bringIn_88 : decode cX1_bringIn 88 = .ok (.aload_n 0, 1) := by decide +kernel
theorem dX1_bringIn_89 : decode cX1_bringIn 89 = .ok (.getfield 14, 3) := by decide +kernel
theorem dX1_bringIn_92 : decode cX1_bringIn 92 = .ok (.getfield 50, 3) := by decide +kernel
theorem dX1_bringIn_95 : decode cX1_bringIn 95 = .ok (.iload 4, 2) := by decide +kernel
theorem dX1_bringIn_97 : decode cX1_bringIn 97 = .ok (.laload, 1) := by decide +kernel
theorem dX1_bringIn_98 : decode cX1_bringIn 98 = .ok (.aload_n 0, 1) := by decide +kernel
theorem dX1_bringIn_99 : decode cX1_bringIn 99 = .ok (.getfield 20, 3) := by decide +kernel
theorem dX1_bringIn_102 : decode cX1_bringIn 102 = .ok (.iload 5, 2) := by decide +kernel
theorem dX1_bringIn_104 : decode cX1_bringIn 104 = .ok (.laload, 1) := by decide +kernel
theorem dX1_bringIn_105 : decode cX1_bringIn 105 = .ok (.invokevirtual 53, 3) := by decide +kernel
theorem dX1_bringIn_108 : decode cX1_bringIn 108 = .ok (.lstore 6, 2) := by decide +kernel
theorem dX1_bringIn_110 : decode cX1_bringIn 110 = .ok (.aload_n 0, 1) := by decide +kernel
theorem dX1_bringIn_111 : decode cX1_bringIn 111 = .ok (.getfield 14, 3) := by decide +kernel
theorem dX1_bringIn_114 : decode cX1_bringIn 114 = .ok (.lload 6, 2) := by decide +kernel
theorem dX1_bringIn_116 : decode cX1_bringIn 116 = .ok (.iconst 0, 1) := by decide +kernel
theorem dX1_bringIn_117 : decode cX1_bringIn 117 = .ok (.invokevirtual 38, 3) := by decide +kernel
theorem dX1_bringIn_120 : decode cX1_bringIn 120 = .ok (.ifCond .ge 15, 3) := by decide +kernel
theorem dX1_bringIn_123 : decode cX1_bringIn 123 = .ok (.aload_n 0, 1) := by decide +kernel
theorem dX1_bringIn_124 : decode cX1_bringIn 124 = .ok (.iload_n 3, 1) := by decide +kernel
theorem dX1_bringIn_125 : decode cX1_bringIn 125 = .ok (.lload 6, 2) := by decide +kernel
theorem dX1_bringIn_127 : decode cX1_bringIn 127 = .ok (.invokevirtual 57, 3) := by decide +kernel
theorem dX1_bringIn_130 : decode cX1_bringIn 130 = .ok (.ifCond .ne 5, 3) := by decide +kernel
theorem dX1_bringIn_133 : decode cX1_bringIn 133 = .ok (.iconst 0, 1) := by decide +kernel
theorem dX1_bringIn_134 : decode cX1_bringIn 134 = .ok (.ireturn, 1) := by decide +kernel
theorem dX1_bringIn_135 : decode cX1_bringIn 135 = .ok (.iinc 5 1, 3) := by decide +kernel
theorem dX1_bringIn_138 : decode cX1_bringIn 138 = .ok (.goto (-60), 3) := by decide +kernel
theorem dX1_bringIn_141 : decode cX1_bringIn 141 = .ok (.iload 4, 2) := by decide +kernel
theorem dX1_bringIn_143 : decode cX1_bringIn 143 = .ok (.iload_n 3, 1) := by decide +kernel
theorem dX1_bringIn_144 : decode cX1_bringIn 144 = .ok (.iadd, 1) := by decide +kernel
theorem dX1_bringIn_145 : decode cX1_bringIn 145 = .ok (.istore 4, 2) := by decide +kernel
theorem dX1_bringIn_147 : decode cX1_bringIn 147 = .ok (.goto (-92), 3) := by decide +kernel
theorem dX1_bringIn_150 : decode cX1_bringIn 150 = .ok (.iconst 1, 1) := by decide +kernel
theorem dX1_bringIn_151 : decode cX1_bringIn 151 = .ok (.ireturn, 1) := by decide +kernel
theorem dX1_addBlock_0 : decode cX1_addBlock 0 = .ok (.aload_n 0, 1) := by decide +kernel
theorem dX1_addBlock_1 : decode cX1_addBlock 1 = .ok (.getfield 14, 3) := by decide +kernel
theorem dX1_addBlock_4 : decode cX1_addBlock 4 = .ok (.getfield 41, 3) := by decide +kernel
theorem dX1_addBlock_7 : decode cX1_addBlock 7 = .ok (.iload_n 1, 1) := by decide +kernel
theorem dX1_addBlock_8 : decode cX1_addBlock 8 = .ok (.iadd, 1) := by decide +kernel
theorem dX1_addBlock_9 : decode cX1_addBlock 9 = .ok (.sipush 3000, 3) := by decide +kernel
theorem dX1_addBlock_12 : decode cX1_addBlock 12 = .ok (.if_icmp .le 5, 3) := by decide +kernel
theorem dX1_addBlock_15 : decode cX1_addBlock 15 = .ok (.iconst 0, 1) := by decide +kernel
theorem dX1_addBlock_16 : decode cX1_addBlock 16 = .ok (.ireturn, 1) := by decide +kernel
theorem dX1_addBlock_17 : decode cX1_addBlock 17 = .ok (.iconst 0, 1) := by decide +kernel
theorem dX1_addBlock_18 : decode cX1_addBlock 18 = .ok (.istore 4, 2) := by decide +kernel
theorem dX1_addBlock_20 : decode cX1_addBlock 20 = .ok (.iload 4, 2) := by decide +kernel
theorem dX1_addBlock_22 : decode cX1_addBlock 22 = .ok (.iload_n 1, 1) := by decide +kernel
theorem dX1_addBlock_23 : decode cX1_addBlock 23 = .ok (.if_icmp .ge 33, 3) := by decide +kernel
theorem dX1_addBlock_26 : decode cX1_addBlock 26 = .ok (.aload_n 0, 1) := by decide +kernel
theorem dX1_addBlock_27 : decode cX1_addBlock 27 = .ok (.getfield 14, 3) := by decide +kernel
theorem dX1_addBlock_30 : decode cX1_addBlock 30 = .ok (.aload_n 0, 1) := by decide +kernel
theorem dX1_addBlock_31 : decode cX1_addBlock 31 = .ok (.aload_n 0, 1) := by decide +kernel
theorem dX1_addBlock_32 : decode cX1_addBlock 32 = .ok (.getfield 14, 3) := by decide +kernel
theorem dX1_addBlock_35 : decode cX1_addBlock 35 = .ok (.getfield 50, 3) := by decide +kernel
theorem dX1_addBlock_38 : decode cX1_addBlock 38 = .ok (.iload 4, 2) := by decide +kernel
theorem dX1_addBlock_40 : decode cX1_addBlock 40 = .ok (.laload, 1) := by decide +kernel
theorem dX1_addBlock_41 : decode cX1_addBlock 41 = .ok (.lload_n 2, 1) := by decide +kernel
theorem dX1_addBlock_42 : decode cX1_addBlock 42 = .ok (.invokevirtual 53, 3) := by decide +kernel
theorem dX1_addBlock_45 : decode cX1_addBlock 45 = .ok (.iconst 0, 1) := by decide +kernel
theorem dX1_addBlock_46 : decode cX1_addBlock 46 = .ok (.invokevirtual 34, 3) := by decide +kernel
theorem dX1_addBlock_49 : decode cX1_addBlock 49 = .ok (.pop, 1) := by decide +kernel
theorem dX1_addBlock_50 : decode cX1_addBlock 50 = .ok (.iinc 4 1, 3) := by decide +kernel
theorem dX1_addBlock_53 : decode cX1_addBlock 53 = .ok (.goto (-33), 3) := by decide +kernel
theorem dX1_addBlock_56 : decode cX1_addBlock 56 = .ok (.iconst 1, 1) := by decide +kernel
theorem dX1_addBlock_57 : decode cX1_addBlock 57 = .ok (.ireturn, 1) := by decide +kernel
theorem dX1_behind_0 : decode cX1_behind 0 = .ok (.lconst 0, 1) := by decide +kernel
theorem dX1_behind_1 : decode cX1_behind 1 = .ok (.lstore 5, 2) := by decide +kernel
theorem dX1_behind_3 : decode cX1_behind 3 = .ok (.iconst 0, 1) := by decide +kernel
theorem dX1_behind_4 : decode cX1_behind 4 = .ok (.istore 7, 2) := by decide +kernel
theorem dX1_behind_6 : decode cX1_behind 6 = .ok (.iload 7, 2) := by decide +kernel
theorem dX1_behind_8 : decode cX1_behind 8 = .ok (.aload_n 0, 1) := by decide +kernel
theorem dX1_behind_9 : decode cX1_behind 9 = .ok (.getfield 28, 3) := by decide +kernel
theorem dX1_behind_12 : decode cX1_behind 12 = .ok (.if_icmp .ge 41, 3) := by decide +kernel
theorem dX1_behind_15 : decode cX1_behind 15 = .ok (.lload_n 1, 1) := by decide +kernel
theorem dX1_behind_16 : decode cX1_behind 16 = .ok (.iconst 4, 1) := by decide +kernel
theorem dX1_behind_17 : decode cX1_behind 17 = .ok (.iload 7, 2) := by decide +kernel
theorem dX1_behind_19 : decode cX1_behind 19 = .ok (.imul, 1) := by decide +kernel
theorem dX1_behind_20 : decode cX1_behind 20 = .ok (.lushr, 1) := by decide +kernel
theorem dX1_behind_21 : decode cX1_behind 21 = .ok (.l2i, 1) := by decide +kernel
theorem dX1_behind_22 : decode cX1_behind 22 = .ok (.bipush 15, 2) := by decide +kernel
theorem dX1_behind_24 : decode cX1_behind 24 = .ok (.iand, 1) := by decide +kernel
theorem dX1_behind_25 : decode cX1_behind 25 = .ok (.istore 8, 2) := by decide +kernel
theorem dX1_behind_27 : decode cX1_behind 27 = .ok (.lload 5, 2) := by decide +kernel
theorem dX1_behind_29 : decode cX1_behind 29 = .ok (.lload_n 3, 1) := by decide +kernel
theorem dX1_behind_30 : decode cX1_behind 30 = .ok (.iconst 4, 1) := by decide +kernel
theorem dX1_behind_31 : decode cX1_behind 31 = .ok (.iload 8, 2) := by decide +kernel
theorem dX1_behind_33 : decode cX1_behind 33 = .ok (.imul, 1) := by decide +kernel
theorem dX1_behind_34 : decode cX1_behind 34 = .ok (.lushr, 1) := by decide +kernel
theorem dX1_behind_35 : decode cX1_behind 35 = .ok (.ldc2_w 61, 3) := by decide +kernel
theorem dX1_behind_38 : decode cX1_behind 38 = .ok (.land, 1) := by decide +kernel
theorem dX1_behind_39 : decode cX1_behind 39 = .ok (.iconst 4, 1) := by decide +kernel
theorem dX1_behind_40 : decode cX1_behind 40 = .ok (.iload 7, 2) := by decide +kernel
theorem dX1_behind_42 : decode cX1_behind 42 = .ok (.imul, 1) := by decide +kernel
theorem dX1_behind_43 : decode cX1_behind 43 = .ok (.lshl, 1) := by decide +kernel
theorem dX1_behind_44 : decode cX1_behind 44 = .ok (.lor, 1) := by decide +kernel
theorem dX1_behind_45 : decode cX1_behind 45 = .ok (.lstore 5, 2) := by decide +kernel
theorem dX1_behind_47 : decode cX1_behind 47 = .ok (.iinc 7 1, 3) := by decide +kernel
theorem dX1_behind_50 : decode cX1_behind 50 = .ok (.goto (-44), 3) := by decide +kernel
theorem dX1_behind_53 : decode cX1_behind 53 = .ok (.lload 5, 2) := by decide +kernel
theorem dX1_behind_55 : decode cX1_behind 55 = .ok (.lreturn, 1) := by decide +kernel
theorem dX2_forget_0 : decode cX2_forget 0 = .ok (.aload_n 0, 1) := by decide +kernel
theorem dX2_forget_1 : decode cX2_forget 1 = .ok (.iconst 0, 1) := by decide +kernel
theorem dX2_forget_2 : decode cX2_forget 2 = .ok (.putfield 33, 3) := by decide +kernel
theorem dX2_forget_5 : decode cX2_forget 5 = .ok (.return_, 1) := by decide +kernel
theorem dX2_forgetRows_0 : decode cX2_forgetRows 0 = .ok (.aload_n 0, 1) := by decide +kernel
theorem dX2_forgetRows_1 : decode cX2_forgetRows 1 = .ok (.getfield 21, 3) := by decide +kernel
theorem dX2_forgetRows_4 : decode cX2_forgetRows 4 = .ok (.iconst (-1), 1) := by decide +kernel
theorem dX2_forgetRows_5 : decode cX2_forgetRows 5 = .ok (.invokestatic 37, 3) := by decide +kernel
theorem dX2_forgetRows_8 : decode cX2_forgetRows 8 = .ok (.return_, 1) := by decide +kernel
theorem dX2_build_0 : decode cX2_build 0 = .ok (.aload_n 0, 1) := by decide +kernel
theorem dX2_build_1 : decode cX2_build 1 = .ok (.getfield 33, 3) := by decide +kernel
theorem dX2_build_4 : decode cX2_build 4 = .ok (.ifCond .ne 47, 3) := by decide +kernel
theorem dX2_build_7 : decode cX2_build 7 = .ok (.aload_n 0, 1) := by decide +kernel
theorem dX2_build_8 : decode cX2_build 8 = .ok (.getfield 15, 3) := by decide +kernel
theorem dX2_build_11 : decode cX2_build 11 = .ok (.iconst 0, 1) := by decide +kernel
theorem dX2_build_12 : decode cX2_build 12 = .ok (.iconst 1, 1) := by decide +kernel
theorem dX2_build_13 : decode cX2_build 13 = .ok (.iastore, 1) := by decide +kernel
theorem dX2_build_14 : decode cX2_build 14 = .ok (.aload_n 0, 1) := by decide +kernel
theorem dX2_build_15 : decode cX2_build 15 = .ok (.getfield 18, 3) := by decide +kernel
theorem dX2_build_18 : decode cX2_build 18 = .ok (.iconst 0, 1) := by decide +kernel
theorem dX2_build_19 : decode cX2_build 19 = .ok (.iconst 0, 1) := by decide +kernel
theorem dX2_build_20 : decode cX2_build 20 = .ok (.iastore, 1) := by decide +kernel
theorem dX2_build_21 : decode cX2_build 21 = .ok (.iconst 0, 1) := by decide +kernel
theorem dX2_build_22 : decode cX2_build 22 = .ok (.istore_n 3, 1) := by decide +kernel
theorem dX2_build_23 : decode cX2_build 23 = .ok (.iload_n 3, 1) := by decide +kernel
theorem dX2_build_24 : decode cX2_build 24 = .ok (.bipush 16, 2) := by decide +kernel
theorem dX2_build_26 : decode cX2_build 26 = .ok (.if_icmp .ge 20, 3) := by decide +kernel
theorem dX2_build_29 : decode cX2_build 29 = .ok (.aload_n 0, 1) := by decide +kernel
theorem dX2_build_30 : decode cX2_build 30 = .ok (.getfield 11, 3) := by decide +kernel
theorem dX2_build_33 : decode cX2_build 33 = .ok (.iload_n 3, 1) := by decide +kernel
theorem dX2_build_34 : decode cX2_build 34 = .ok (.sipush 512, 3) := by decide +kernel
theorem dX2_build_37 : decode cX2_build 37 = .ok (.imul, 1) := by decide +kernel
theorem dX2_build_38 : decode cX2_build 38 = .ok (.iconst 0, 1) := by decide +kernel
theorem dX2_build_39 : decode cX2_build 39 = .ok (.iastore, 1) := by decide +kernel
theorem dX2_build_40 : decode cX2_build 40 = .ok (.iinc 3 1, 3) := by decide +kernel
theorem dX2_build_43 : decode cX2_build 43 = .ok (.goto (-20), 3) := by decide +kernel
theorem dX2_build_46 : decode cX2_build 46 = .ok (.aload_n 0, 1) := by decide +kernel
theorem dX2_build_47 : decode cX2_build 47 = .ok (.iconst 1, 1) := by decide +kernel
theorem dX2_build_48 : decode cX2_build 48 = .ok (.putfield 33, 3) := by decide +kernel
theorem dX2_build_51 : decode cX2_build 51 = .ok (.aload_n 0, 1) := by decide +kernel
theorem dX2_build_52 : decode cX2_build 52 = .ok (.getfield 33, 3) := by decide +kernel
theorem dX2_build_55 : decode cX2_build 55 = .ok (.istore_n 3, 1) := by decide +kernel
theorem dX2_build_56 : decode cX2_build 56 = .ok (.iload_n 3, 1) := by decide +kernel
theorem dX2_build_57 : decode cX2_build 57 = .ok (.iload_n 2, 1) := by decide +kernel
theorem dX2_build_58 : decode cX2_build 58 = .ok (.if_icmp .gt 115, 3) := by decide +kernel
theorem dX2_build_61 : decode cX2_build 61 = .ok (.iload_n 3, 1) := by decide +kernel
theorem dX2_build_62 : decode cX2_build 62 = .ok (.bipush 9, 2) := by decide +kernel
theorem dX2_build_64 : decode cX2_build 64 = .ok (.if_icmp .ge 109, 3) := by decide +kernel
theorem dX2_build_67 : decode cX2_build 67 = .ok (.aload_n 0, 1) := by decide +kernel
theorem dX2_build_68 : decode cX2_build 68 = .ok (.getfield 15, 3) := by decide +kernel
theorem dX2_build_71 : decode cX2_build 71 = .ok (.iload_n 3, 1) := by decide +kernel
theorem dX2_build_72 : decode cX2_build 72 = .ok (.aload_n 0, 1) := by decide +kernel
theorem dX2_build_73 : decode cX2_build 73 = .ok (.getfield 15, 3) := by decide +kernel
theorem dX2_build_76 : decode cX2_build 76 = .ok (.iload_n 3, 1) := by decide +kernel
theorem dX2_build_77 : decode cX2_build 77 = .ok (.iconst 1, 1) := by decide +kernel
theorem dX2_build_78 : decode cX2_build 78 = .ok (.isub, 1) := by decide +kernel
theorem dX2_build_79 : decode cX2_build 79 = .ok (.iaload, 1) := by decide +kernel
theorem dX2_build_80 : decode cX2_build 80 = .ok (.aload_n 1, 1) := by decide +kernel
theorem dX2_build_81 : decode cX2_build 81 = .ok (.getfield 43, 3) := by decide +kernel
theorem dX2_build_84 : decode cX2_build 84 = .ok (.imul, 1) := by decide +kernel
theorem dX2_build_85 : decode cX2_build 85 = .ok (.iastore, 1) := by decide +kernel
theorem dX2_build_86 : decode cX2_build 86 = .ok (.aload_n 0, 1) := by decide +kernel
theorem dX2_build_87 : decode cX2_build 87 = .ok (.getfield 18, 3) := by decide +kernel
theorem dX2_build_90 : decode cX2_build 90 = .ok (.iload_n 3, 1) := by decide +kernel
theorem dX2_build_91 : decode cX2_build 91 = .ok (.aload_n 0, 1) := by decide +kernel
theorem dX2_build_92 : decode cX2_build 92 = .ok (.getfield 18, 3) := by decide +kernel
theorem dX2_build_95 : decode cX2_build 95 = .ok (.iload_n 3, 1) := by decide +kernel
theorem dX2_build_96 : decode cX2_build 96 = .ok (.iconst 1, 1) := by decide +kernel
theorem dX2_build_97 : decode cX2_build 97 = .ok (.isub, 1) := by decide +kernel
theorem dX2_build_98 : decode cX2_build 98 = .ok (.iaload, 1) := by decide +kernel
theorem dX2_build_99 : decode cX2_build 99 = .ok (.aload_n 0, 1) := by decide +kernel
theorem dX2_build_100 : decode cX2_build 100 = .ok (.getfield 15, 3) := by decide +kernel
theorem dX2_build_103 : decode cX2_build 103 = .ok (.iload_n 3, 1) := by decide +kernel
theorem dX2_build_104 : decode cX2_build 104 = .ok (.iconst 1, 1) := by decide +kernel
theorem dX2_build_105 : decode cX2_build 105 = .ok (.isub, 1) := by decide +kernel
theorem dX2_build_106 : decode cX2_build 106 = .ok (.iaload, 1) := by decide +kernel
theorem dX2_build_107 : decode cX2_build 107 = .ok (.iadd, 1) := by decide +kernel
theorem dX2_build_108 : decode cX2_build 108 = .ok (.iastore, 1) := by decide +kernel
theorem dX2_build_109 : decode cX2_build 109 = .ok (.iconst 0, 1) := by decide +kernel
theorem dX2_build_110 : decode cX2_build 110 = .ok (.istore 4, 2) := by decide +kernel
theorem dX2_build_112 : decode cX2_build 112 = .ok (.iload 4, 2) := by decide +kernel
theorem dX2_build_114 : decode cX2_build 114 = .ok (.aload_n 1, 1) := by decide +kernel
theorem dX2_build_115 : decode cX2_build 115 = .ok (.getfield 48, 3) := by decide +kernel
theorem dX2_build_118 : decode cX2_build 118 = .ok (.if_icmp .ge 42, 3) := by decide +kernel
theorem dX2_build_121 : decode cX2_build 121 = .ok (.iconst 0, 1) := by decide +kernel
theorem dX2_build_122 : decode cX2_build 122 = .ok (.istore 5, 2) := by decide +kernel
theorem dX2_build_124 : decode cX2_build 124 = .ok (.iload 5, 2) := by decide +kernel
theorem dX2_build_126 : decode cX2_build 126 = .ok (.aload_n 1, 1) := by decide +kernel
theorem dX2_build_127 : decode cX2_build 127 = .ok (.getfield 43, 3) := by decide +kernel
theorem dX2_build_130 : decode cX2_build 130 = .ok (.if_icmp .ge 24, 3) := by decide +kernel
theorem dX2_build_133 : decode cX2_build 133 = .ok (.aload_n 0, 1) := by decide +kernel
theorem dX2_build_134 : decode cX2_build 134 = .ok (.aload_n 1, 1) := by decide +kernel
theorem dX2_build_135 : decode cX2_build 135 = .ok (.iload_n 3, 1) := by decide +kernel
theorem dX2_build_136 : decode cX2_build 136 = .ok (.aload_n 1, 1) := by decide +kernel
theorem dX2_build_137 : decode cX2_build 137 = .ok (.getfield 51, 3) := by decide +kernel
theorem dX2_build_140 : decode cX2_build 140 = .ok (.iload 4, 2) := by decide +kernel
theorem dX2_build_142 : decode cX2_build 142 = .ok (.iaload, 1) := by decide +kernel
theorem dX2_build_143 : decode cX2_build 143 = .ok (.iload 5, 2) := by decide +kernel
theorem dX2_build_145 : decode cX2_build 145 = .ok (.invokevirtual 54, 3) := by decide +kernel
theorem dX2_build_148 : decode cX2_build 148 = .ok (.iinc 5 1, 3) := by decide +kernel
theorem dX2_build_151 : decode cX2_build 151 = .ok (.goto (-27), 3) := by decide +kernel
theorem dX2_build_154 : decode cX2_build 154 = .ok (.iinc 4 1, 3) := by decide +kernel
theorem dX2_build_157 : decode cX2_build 157 = .ok (.goto (-45), 3) := by decide +kernel
theorem dX2_build_160 : decode cX2_build 160 = .ok (.aload_n 0, 1) := by decide +kernel
theorem dX2_build_161 : decode cX2_build 161 = .ok (.iload_n 3, 1) := by decide +kernel
theorem dX2_build_162 : decode cX2_build 162 = .ok (.iconst 1, 1) := by decide +kernel
theorem dX2_build_163 : decode cX2_build 163 = .ok (.iadd, 1) := by decide +kernel
theorem dX2_build_164 : decode cX2_build 164 = .ok (.putfield 33, 3) := by decide +kernel
theorem dX2_build_167 : decode cX2_build 167 = .ok (.iinc 3 1, 3) := by decide +kernel
theorem dX2_build_170 : decode cX2_build 170 = .ok (.goto (-114), 3) := by decide +kernel
theorem dX2_build_173 : decode cX2_build 173 = .ok (.return_, 1) := by decide +kernel
theorem dX2_buildBranch_0 : decode cX2_buildBranch 0 = .ok (.aload_n 0, 1) := by decide +kernel
theorem dX2_buildBranch_1 : decode cX2_buildBranch 1 = .ok (.getfield 15, 3) := by decide +kernel
theorem dX2_buildBranch_4 : decode cX2_buildBranch 4 = .ok (.iload_n 2, 1) := by decide +kernel
theorem dX2_buildBranch_5 : decode cX2_buildBranch 5 = .ok (.iconst 1, 1) := by decide +kernel
theorem dX2_buildBranch_6 : decode cX2_buildBranch 6 = .ok (.isub, 1) := by decide +kernel
theorem dX2_buildBranch_7 : decode cX2_buildBranch 7 = .ok (.iaload, 1) := by decide +kernel
theorem dX2_buildBranch_8 : decode cX2_buildBranch 8 = .ok (.istore 5, 2) := by decide +kernel
theorem dX2_buildBranch_10 : decode cX2_buildBranch 10 = .ok (.aload_n 1, 1) := by decide +kernel
theorem dX2_buildBranch_11 : decode cX2_buildBranch 11 = .ok (.getfield 58, 3) := by decide +kernel
theorem dX2_buildBranch_14 : decode cX2_buildBranch 14 = .ok (.iload_n 3, 1) := by decide +kernel
theorem dX2_buildBranch_15 : decode cX2_buildBranch 15 = .ok (.iconst 4, 1) := by decide +kernel
theorem dX2_buildBranch_16 : decode cX2_buildBranch 16 = .ok (.imul, 1) := by decide +kernel
theorem dX2_buildBranch_17 : decode cX2_buildBranch 17 = .ok (.iload 4, 2) := by decide +kernel
theorem dX2_buildBranch_19 : decode cX2_buildBranch 19 = .ok (.iadd, 1) := by decide +kernel
theorem dX2_buildBranch_20 : decode cX2_buildBranch 20 = .ok (.iaload, 1) := by decide +kernel
theorem dX2_buildBranch_21 : decode cX2_buildBranch 21 = .ok (.istore 6, 2) := by decide +kernel
theorem dX2_buildBranch_23 : decode cX2_buildBranch 23 = .ok (.aload_n 1, 1) := by decide +kernel
theorem dX2_buildBranch_24 : decode cX2_buildBranch 24 = .ok (.getfield 61, 3) := by decide +kernel
theorem dX2_buildBranch_27 : decode cX2_buildBranch 27 = .ok (.iload_n 3, 1) := by decide +kernel
theorem dX2_buildBranch_28 : decode cX2_buildBranch 28 = .ok (.iconst 4, 1) := by decide +kernel
theorem dX2_buildBranch_29 : decode cX2_buildBranch 29 = .ok (.imul, 1) := by decide +kernel
theorem dX2_buildBranch_30 : decode cX2_buildBranch 30 = .ok (.iload 4, 2) := by decide +kernel
theorem dX2_buildBranch_32 : decode cX2_buildBranch 32 = .ok (.iadd, 1) := by decide +kernel
theorem dX2_buildBranch_33 : decode cX2_buildBranch 33 = .ok (.iaload, 1) := by decide +kernel
theorem dX2_buildBranch_34 : decode cX2_buildBranch 34 = .ok (.istore 7, 2) := by decide +kernel
theorem dX2_buildBranch_36 : decode cX2_buildBranch 36 = .ok (.iload_n 3, 1) := by decide +kernel
theorem dX2_buildBranch_37 : decode cX2_buildBranch 37 = .ok (.sipush 512, 3) := by decide +kernel
theorem dX2_buildBranch_40 : decode cX2_buildBranch 40 = .ok (.imul, 1) := by decide +kernel
theorem dX2_buildBranch_41 : decode cX2_buildBranch 41 = .ok (.aload_n 0, 1) := by decide +kernel
theorem dX2_buildBranch_42 : decode cX2_buildBranch 42 = .ok (.getfield 18, 3) := by decide +kernel
theorem dX2_buildBranch_45 : decode cX2_buildBranch 45 = .ok (.iload_n 2, 1) := by decide +kernel
theorem dX2_buildBranch_46 : decode cX2_buildBranch 46 = .ok (.iaload, 1) := by decide +kernel
theorem dX2_buildBranch_47 : decode cX2_buildBranch 47 = .ok (.iadd, 1) := by decide +kernel
theorem dX2_buildBranch_48 : decode cX2_buildBranch 48 = .ok (.iload 4, 2) := by decide +kernel
theorem dX2_buildBranch_50 : decode cX2_buildBranch 50 = .ok (.iload 5, 2) := by decide +kernel
theorem dX2_buildBranch_52 : decode cX2_buildBranch 52 = .ok (.imul, 1) := by decide +kernel
theorem dX2_buildBranch_53 : decode cX2_buildBranch 53 = .ok (.iadd, 1) := by decide +kernel
theorem dX2_buildBranch_54 : decode cX2_buildBranch 54 = .ok (.istore 8, 2) := by decide +kernel
theorem dX2_buildBranch_56 : decode cX2_buildBranch 56 = .ok (.iconst 0, 1) := by decide +kernel
theorem dX2_buildBranch_57 : decode cX2_buildBranch 57 = .ok (.istore 9, 2) := by decide +kernel
theorem dX2_buildBranch_59 : decode cX2_buildBranch 59 = .ok (.iload 9, 2) := by decide +kernel
theorem dX2_buildBranch_61 : decode cX2_buildBranch 61 = .ok (.iload 5, 2) := by decide +kernel
theorem dX2_buildBranch_63 : decode cX2_buildBranch 63 = .ok (.if_icmp .ge 63, 3) := by decide +kernel
theorem dX2_buildBranch_66 : decode cX2_buildBranch 66 = .ok (.iload 7, 2) := by decide +kernel
theorem dX2_buildBranch_68 : decode cX2_buildBranch 68 = .ok (.iconst (-1), 1) := by decide +kernel
theorem dX2_buildBranch_69 : decode cX2_buildBranch 69 = .ok (.if_icmp .ne 8, 3) := by decide +kernel
theorem dX2_buildBranch_72 : decode cX2_buildBranch 72 = .ok (.iload 9, 2) := by decide +kernel
theorem dX2_buildBranch_74 : decode cX2_buildBranch 74 = .ok (.goto 26, 3) := by decide +kernel
theorem dX2_buildBranch_77 : decode cX2_buildBranch 77 = .ok (.aload_n 0, 1) := by decide +kernel
theorem dX2_buildBranch_78 : decode cX2_buildBranch 78 = .ok (.getfield 11, 3) := by decide +kernel
theorem dX2_buildBranch_81 : decode cX2_buildBranch 81 = .ok (.iload 7, 2) := by decide +kernel
theorem dX2_buildBranch_83 : decode cX2_buildBranch 83 = .ok (.sipush 512, 3) := by decide +kernel
theorem dX2_buildBranch_86 : decode cX2_buildBranch 86 = .ok (.imul, 1) := by decide +kernel
theorem dX2_buildBranch_87 : decode cX2_buildBranch 87 = .ok (.aload_n 0, 1) := by decide +kernel
theorem dX2_buildBranch_88 : decode cX2_buildBranch 88 = .ok (.getfield 18, 3) := by decide +kernel
theorem dX2_buildBranch_91 : decode cX2_buildBranch 91 = .ok (.iload_n 2, 1) := by decide +kernel
theorem dX2_buildBranch_92 : decode cX2_buildBranch 92 = .ok (.iconst 1, 1) := by decide +kernel
theorem dX2_buildBranch_93 : decode cX2_buildBranch 93 = .ok (.isub, 1) := by decide +kernel
theorem dX2_buildBranch_94 : decode cX2_buildBranch 94 = .ok (.iaload, 1) := by decide +kernel
theorem dX2_buildBranch_95 : decode cX2_buildBranch 95 = .ok (.iadd, 1) := by decide +kernel
theorem dX2_buildBranch_96 : decode cX2_buildBranch 96 = .ok (.iload 9, 2) := by decide +kernel
theorem dX2_buildBranch_98 : decode cX2_buildBranch 98 = .ok (.iadd, 1) := by decide +kernel
theorem dX2_buildBranch_99 : decode cX2_buildBranch 99 = .ok (.iaload, 1) := by decide +kernel
theorem dX2_buildBranch_100 : decode cX2_buildBranch 100 = .ok (.istore 10, 2) := by decide +kernel
theorem dX2_buildBranch_102 : decode cX2_buildBranch 102 = .ok (.aload_n 0, 1) := by decide +kernel
theorem dX2_buildBranch_103 : decode cX2_buildBranch 103 = .ok (.getfield 11, 3) := by decide +kernel
theorem dX2_buildBranch_106 : decode cX2_buildBranch 106 = .ok (.iload 8, 2) := by decide +kernel
theorem dX2_buildBranch_108 : decode cX2_buildBranch 108 = .ok (.iload 9, 2) := by decide +kernel
theorem dX2_buildBranch_110 : decode cX2_buildBranch 110 = .ok (.iadd, 1) := by decide +kernel
theorem dX2_buildBranch_111 : decode cX2_buildBranch 111 = .ok (.iload 6, 2) := by decide +kernel
theorem dX2_buildBranch_113 : decode cX2_buildBranch 113 = .ok (.iload 5, 2) := by decide +kernel
theorem dX2_buildBranch_115 : decode cX2_buildBranch 115 = .ok (.imul, 1) := by decide +kernel
theorem dX2_buildBranch_116 : decode cX2_buildBranch 116 = .ok (.iload 10, 2) := by decide +kernel
theorem dX2_buildBranch_118 : decode cX2_buildBranch 118 = .ok (.iadd, 1) := by decide +kernel
theorem dX2_buildBranch_119 : decode cX2_buildBranch 119 = .ok (.iastore, 1) := by decide +kernel
theorem dX2_buildBranch_120 : decode cX2_buildBranch 120 = .ok (.iinc 9 1, 3) := by decide +kernel
theorem dX2_buildBranch_123 : decode cX2_buildBranch 123 = .ok (.goto (-64), 3) := by decide +kernel
theorem dX2_buildBranch_126 : decode cX2_buildBranch 126 = .ok (.return_, 1) := by decide +kernel
theorem dX2_spread_0 : decode cX2_spread 0 = .ok (.iconst 1, 1) := by decide +kernel
theorem dX2_spread_1 : decode cX2_spread 1 = .ok (.istore 5, 2) := by decide +kernel
theorem dX2_spread_3 : decode cX2_spread 3 = .ok (.aload_n 0, 1) := by decide +kernel
theorem dX2_spread_4 : decode cX2_spread 4 = .ok (.getfield 24, 3) := by decide +kernel
theorem dX2_spread_7 : decode cX2_spread 7 = .ok (.iconst 0, 1) := by decide +kernel
theorem dX2_spread_8 : decode cX2_spread 8 = .ok (.iload_n 3, 1) := by decide +kernel
theorem dX2_spread_9 : decode cX2_spread 9 = .ok (.iastore, 1) := by decide +kernel
theorem dX2_spread_10 : decode cX2_spread 10 = .ok (.aload_n 0, 1) := by decide +kernel
theorem dX2_spread_11 : decode cX2_spread 11 = .ok (.getfield 21, 3) := by decide +kernel
theorem dX2_spread_14 : decode cX2_spread 14 = .ok (.iload_n 3, 1) := by decide +kernel
theorem dX2_spread_15 : decode cX2_spread 15 = .ok (.iconst 0, 1) := by decide +kernel
theorem dX2_spread_16 : decode cX2_spread 16 = .ok (.iastore, 1) := by decide +kernel
theorem dX2_spread_17 : decode cX2_spread 17 = .ok (.iconst 0, 1) := by decide +kernel
theorem dX2_spread_18 : decode cX2_spread 18 = .ok (.istore 6, 2) := by decide +kernel
theorem dX2_spread_20 : decode cX2_spread 20 = .ok (.iload 6, 2) := by decide +kernel
theorem dX2_spread_22 : decode cX2_spread 22 = .ok (.iload 5, 2) := by decide +kernel
theorem dX2_spread_24 : decode cX2_spread 24 = .ok (.if_icmp .ge 148, 3) := by decide +kernel
theorem dX2_spread_27 : decode cX2_spread 27 = .ok (.iload 6, 2) := by decide +kernel
theorem dX2_spread_29 : decode cX2_spread 29 = .ok (.sipush 256, 3) := by decide +kernel
theorem dX2_spread_32 : decode cX2_spread 32 = .ok (.if_icmp .ge 140, 3) := by decide +kernel
theorem dX2_spread_35 : decode cX2_spread 35 = .ok (.aload_n 0, 1) := by decide +kernel
theorem dX2_spread_36 : decode cX2_spread 36 = .ok (.getfield 24, 3) := by decide +kernel
theorem dX2_spread_39 : decode cX2_spread 39 = .ok (.iload 6, 2) := by decide +kernel
theorem dX2_spread_41 : decode cX2_spread 41 = .ok (.iaload, 1) := by decide +kernel
theorem dX2_spread_42 : decode cX2_spread 42 = .ok (.istore 7, 2) := by decide +kernel
theorem dX2_spread_44 : decode cX2_spread 44 = .ok (.iconst 0, 1) := by decide +kernel
theorem dX2_spread_45 : decode cX2_spread 45 = .ok (.istore 8, 2) := by decide +kernel
theorem dX2_spread_47 : decode cX2_spread 47 = .ok (.iload 8, 2) := by decide +kernel
theorem dX2_spread_49 : decode cX2_spread 49 = .ok (.aload_n 1, 1) := by decide +kernel
theorem dX2_spread_50 : decode cX2_spread 50 = .ok (.getfield 48, 3) := by decide +kernel
theorem dX2_spread_53 : decode cX2_spread 53 = .ok (.if_icmp .ge 113, 3) := by decide +kernel
theorem dX2_spread_56 : decode cX2_spread 56 = .ok (.aload_n 1, 1) := by decide +kernel
theorem dX2_spread_57 : decode cX2_spread 57 = .ok (.getfield 51, 3) := by decide +kernel
theorem dX2_spread_60 : decode cX2_spread 60 = .ok (.iload 8, 2) := by decide +kernel
theorem dX2_spread_62 : decode cX2_spread 62 = .ok (.iaload, 1) := by decide +kernel
theorem dX2_spread_63 : decode cX2_spread 63 = .ok (.istore 9, 2) := by decide +kernel
theorem dX2_spread_65 : decode cX2_spread 65 = .ok (.aload_n 0, 1) := by decide +kernel
theorem dX2_spread_66 : decode cX2_spread 66 = .ok (.getfield 11, 3) := by decide +kernel
theorem dX2_spread_69 : decode cX2_spread 69 = .ok (.iload 9, 2) := by decide +kernel
theorem dX2_spread_71 : decode cX2_spread 71 = .ok (.sipush 512, 3) := by decide +kernel
theorem dX2_spread_74 : decode cX2_spread 74 = .ok (.imul, 1) := by decide +kernel
theorem dX2_spread_75 : decode cX2_spread 75 = .ok (.aload_n 0, 1) := by decide +kernel
theorem dX2_spread_76 : decode cX2_spread 76 = .ok (.getfield 18, 3) := by decide +kernel
theorem dX2_spread_79 : decode cX2_spread 79 = .ok (.iload_n 2, 1) := by decide +kernel
theorem dX2_spread_80 : decode cX2_spread 80 = .ok (.iaload, 1) := by decide +kernel
theorem dX2_spread_81 : decode cX2_spread 81 = .ok (.iadd, 1) := by decide +kernel
theorem dX2_spread_82 : decode cX2_spread 82 = .ok (.iload 7, 2) := by decide +kernel
theorem dX2_spread_84 : decode cX2_spread 84 = .ok (.iadd, 1) := by decide +kernel
theorem dX2_spread_85 : decode cX2_spread 85 = .ok (.iaload, 1) := by decide +kernel
theorem dX2_spread_86 : decode cX2_spread 86 = .ok (.istore 10, 2) := by decide +kernel
theorem dX2_spread_88 : decode cX2_spread 88 = .ok (.aload_n 0, 1) := by decide +kernel
theorem dX2_spread_89 : decode cX2_spread 89 = .ok (.getfield 21, 3) := by decide +kernel
theorem dX2_spread_92 : decode cX2_spread 92 = .ok (.iload 10, 2) := by decide +kernel
theorem dX2_spread_94 : decode cX2_spread 94 = .ok (.iaload, 1) := by decide +kernel
theorem dX2_spread_95 : decode cX2_spread 95 = .ok (.ifCond .ge 65, 3) := by decide +kernel
theorem dX2_spread_98 : decode cX2_spread 98 = .ok (.iload 4, 2) := by decide +kernel
theorem dX2_spread_100 : decode cX2_spread 100 = .ok (.ifCond .eq 14, 3) := by decide +kernel
theorem dX2_spread_103 : decode cX2_spread 103 = .ok (.aload_n 1, 1) := by decide +kernel
theorem dX2_spread_104 : decode cX2_spread 104 = .ok (.iload 9, 2) := by decide +kernel
theorem dX2_spread_106 : decode cX2_spread 106 = .ok (.iconst 1, 1) := by decide +kernel
theorem dX2_spread_107 : decode cX2_spread 107 = .ok (.ishr, 1) := by decide +kernel
theorem dX2_spread_108 : decode cX2_spread 108 = .ok (.invokevirtual 64, 3) := by decide +kernel
theorem dX2_spread_111 : decode cX2_spread 111 = .ok (.ifCond .eq 49, 3) := by decide +kernel
theorem dX2_spread_114 : decode cX2_spread 114 = .ok (.aload_n 0, 1) := by decide +kernel
theorem dX2_spread_115 : decode cX2_spread 115 = .ok (.getfield 21, 3) := by decide +kernel
theorem dX2_spread_118 : decode cX2_spread 118 = .ok (.iload 10, 2) := by decide +kernel
theorem dX2_spread_120 : decode cX2_spread 120 = .ok (.aload_n 0, 1) := by decide +kernel
theorem dX2_spread_121 : decode cX2_spread 121 = .ok (.getfield 21, 3) := by decide +kernel
theorem dX2_spread_124 : decode cX2_spread 124 = .ok (.iload 7, 2) := by decide +kernel
theorem dX2_spread_126 : decode cX2_spread 126 = .ok (.iaload, 1) := by decide +kernel
theorem dX2_spread_127 : decode cX2_spread 127 = .ok (.iconst 1, 1) := by decide +kernel
theorem dX2_spread_128 : decode cX2_spread 128 = .ok (.iadd, 1) := by decide +kernel
theorem dX2_spread_129 : decode cX2_spread 129 = .ok (.iastore, 1) := by decide +kernel
theorem dX2_spread_130 : decode cX2_spread 130 = .ok (.aload_n 0, 1) := by decide +kernel
theorem dX2_spread_131 : decode cX2_spread 131 = .ok (.getfield 27, 3) := by decide +kernel
theorem dX2_spread_134 : decode cX2_spread 134 = .ok (.iload 10, 2) := by decide +kernel
theorem dX2_spread_136 : decode cX2_spread 136 = .ok (.iload 7, 2) := by decide +kernel
theorem dX2_spread_138 : decode cX2_spread 138 = .ok (.iastore, 1) := by decide +kernel
theorem dX2_spread_139 : decode cX2_spread 139 = .ok (.aload_n 0, 1) := by decide +kernel
theorem dX2_spread_140 : decode cX2_spread 140 = .ok (.getfield 30, 3) := by decide +kernel
theorem dX2_spread_143 : decode cX2_spread 143 = .ok (.iload 10, 2) := by decide +kernel
theorem dX2_spread_145 : decode cX2_spread 145 = .ok (.iload 9, 2) := by decide +kernel
theorem dX2_spread_147 : decode cX2_spread 147 = .ok (.iastore, 1) := by decide +kernel
theorem dX2_spread_148 : decode cX2_spread 148 = .ok (.aload_n 0, 1) := by decide +kernel
theorem dX2_spread_149 : decode cX2_spread 149 = .ok (.getfield 24, 3) := by decide +kernel
theorem dX2_spread_152 : decode cX2_spread 152 = .ok (.iload 5, 2) := by decide +kernel
theorem dX2_spread_154 : decode cX2_spread 154 = .ok (.iinc 5 1, 3) := by decide +kernel
theorem dX2_spread_157 : decode cX2_spread 157 = .ok (.iload 10, 2) := by decide +kernel
theorem dX2_spread_159 : decode cX2_spread 159 = .ok (.iastore, 1) := by decide +kernel
theorem dX2_spread_160 : decode cX2_spread 160 = .ok (.iinc 8 1, 3) := by decide +kernel
theorem dX2_spread_163 : decode cX2_spread 163 = .ok (.goto (-116), 3) := by decide +kernel
theorem dX2_spread_166 : decode cX2_spread 166 = .ok (.iinc 6 1, 3) := by decide +kernel
theorem dX2_spread_169 : decode cX2_spread 169 = .ok (.goto (-149), 3) := by decide +kernel
theorem dX2_spread_172 : decode cX2_spread 172 = .ok (.iload 5, 2) := by decide +kernel
theorem dX2_spread_174 : decode cX2_spread 174 = .ok (.ireturn, 1) := by decide +kernel
theorem dX2_countBackOrbits_0 : decode cX2_countBackOrbits 0 = .ok (.iconst 0, 1) := by decide +kernel
theorem dX2_countBackOrbits_1 : decode cX2_countBackOrbits 1 = .ok (.istore_n 3, 1) := by decide +kernel
theorem dX2_countBackOrbits_2 : decode cX2_countBackOrbits 2 = .ok (.aload_n 0, 1) := by decide +kernel
theorem dX2_countBackOrbits_3 : decode cX2_countBackOrbits 3 = .ok (.invokevirtual 68, 3) := by decide +kernel
theorem dX2_countBackOrbits_6 : decode cX2_countBackOrbits 6 = .ok (.iconst 0, 1) := by decide +kernel
theorem dX2_countBackOrbits_7 : decode cX2_countBackOrbits 7 = .ok (.istore 4, 2) := by decide +kernel
theorem dX2_countBackOrbits_9 : decode cX2_countBackOrbits 9 = .ok (.iload 4, 2) := by decide +kernel
theorem dX2_countBackOrbits_11 : decode cX2_countBackOrbits 11 = .ok (.aload_n 0, 1) := by decide +kernel
theorem dX2_countBackOrbits_12 : decode cX2_countBackOrbits 12 = .ok (.getfield 15, 3) := by decide +kernel
theorem dX2_countBackOrbits_15 : decode cX2_countBackOrbits 15 = .ok (.iload_n 2, 1) := by decide +kernel
theorem dX2_countBackOrbits_16 : decode cX2_countBackOrbits 16 = .ok (.iaload, 1) := by decide +kernel
theorem dX2_countBackOrbits_17 : decode cX2_countBackOrbits 17 = .ok (.if_icmp .ge 32, 3) := by decide +kernel
theorem dX2_countBackOrbits_20 : decode cX2_countBackOrbits 20 = .ok (.aload_n 0, 1) := by decide +kernel
theorem dX2_countBackOrbits_21 : decode cX2_countBackOrbits 21 = .ok (.getfield 21, 3) := by decide +kernel
theorem dX2_countBackOrbits_24 : decode cX2_countBackOrbits 24 = .ok (.iload 4, 2) := by decide +kernel
theorem dX2_countBackOrbits_26 : decode cX2_countBackOrbits 26 = .ok (.iaload, 1) := by decide +kernel
theorem dX2_countBackOrbits_27 : decode cX2_countBackOrbits 27 = .ok (.ifCond .ge 16, 3) := by decide +kernel
theorem dX2_countBackOrbits_30 : decode cX2_countBackOrbits 30 = .ok (.aload_n 0, 1) := by decide +kernel
theorem dX2_countBackOrbits_31 : decode cX2_countBackOrbits 31 = .ok (.aload_n 1, 1) := by decide +kernel
theorem dX2_countBackOrbits_32 : decode cX2_countBackOrbits 32 = .ok (.iload_n 2, 1) := by decide +kernel
theorem dX2_countBackOrbits_33 : decode cX2_countBackOrbits 33 = .ok (.iload 4, 2) := by decide +kernel
theorem dX2_countBackOrbits_35 : decode cX2_countBackOrbits 35 = .ok (.iconst 1, 1) := by decide +kernel
theorem dX2_countBackOrbits_36 : decode cX2_countBackOrbits 36 = .ok (.invokevirtual 71, 3) := by decide +kernel
theorem dX2_countBackOrbits_39 : decode cX2_countBackOrbits 39 = .ok (.pop, 1) := by decide +kernel
theorem dX2_countBackOrbits_40 : decode cX2_countBackOrbits 40 = .ok (.iinc 3 1, 3) := by decide +kernel
theorem dX2_countBackOrbits_43 : decode cX2_countBackOrbits 43 = .ok (.iinc 4 1, 3) := by decide +kernel
theorem dX2_countBackOrbits_46 : decode cX2_countBackOrbits 46 = .ok (.goto (-37), 3) := by decide +kernel
theorem dX2_countBackOrbits_49 : decode cX2_countBackOrbits 49 = .ok (.iload_n 3, 1) := by decide +kernel
theorem dX2_countBackOrbits_50 : decode cX2_countBackOrbits 50 = .ok (.ireturn, 1) := by decide +kernel
theorem dX2_markOfMove_0 : decode cX2_markOfMove 0 = .ok (.iload_n 1, 1) := by decide +kernel
theorem dX2_markOfMove_1 : decode cX2_markOfMove 1 = .ok (.istore 4, 2) := by decide +kernel
theorem dX2_markOfMove_3 : decode cX2_markOfMove 3 = .ok (.iload_n 2, 1) := by decide +kernel
theorem dX2_markOfMove_4 : decode cX2_markOfMove 4 = .ok (.iconst 1, 1) := by decide +kernel
theorem dX2_markOfMove_5 : decode cX2_markOfMove 5 = .ok (.isub, 1) := by decide +kernel
theorem dX2_markOfMove_6 : decode cX2_markOfMove 6 = .ok (.istore 5, 2) := by decide +kernel
theorem dX2_markOfMove_8 : decode cX2_markOfMove 8 = .ok (.iload 5, 2) := by decide +kernel
theorem dX2_markOfMove_10 : decode cX2_markOfMove 10 = .ok (.iload_n 3, 1) := by decide +kernel
theorem dX2_markOfMove_11 : decode cX2_markOfMove 11 = .ok (.if_icmp .le 18, 3) := by decide +kernel
theorem dX2_markOfMove_14 : decode cX2_markOfMove 14 = .ok (.aload_n 0, 1) := by decide +kernel
theorem dX2_markOfMove_15 : decode cX2_markOfMove 15 = .ok (.getfield 27, 3) := by decide +kernel
theorem dX2_markOfMove_18 : decode cX2_markOfMove 18 = .ok (.iload 4, 2) := by decide +kernel
theorem dX2_markOfMove_20 : decode cX2_markOfMove 20 = .ok (.iaload, 1) := by decide +kernel
theorem dX2_markOfMove_21 : decode cX2_markOfMove 21 = .ok (.istore 4, 2) := by decide +kernel
theorem dX2_markOfMove_23 : decode cX2_markOfMove 23 = .ok (.iinc 5 (-1), 3) := by decide +kernel
theorem dX2_markOfMove_26 : decode cX2_markOfMove 26 = .ok (.goto (-18), 3) := by decide +kernel
theorem dX2_markOfMove_29 : decode cX2_markOfMove 29 = .ok (.aload_n 0, 1) := by decide +kernel
theorem dX2_markOfMove_30 : decode cX2_markOfMove 30 = .ok (.getfield 30, 3) := by decide +kernel
theorem dX2_markOfMove_33 : decode cX2_markOfMove 33 = .ok (.iload 4, 2) := by decide +kernel
theorem dX2_markOfMove_35 : decode cX2_markOfMove 35 = .ok (.iaload, 1) := by decide +kernel
theorem dX2_markOfMove_36 : decode cX2_markOfMove 36 = .ok (.ireturn, 1) := by decide +kernel
theorem dX2_roundsToRest_0 : decode cX2_roundsToRest 0 = .ok (.lconst 1, 1) := by decide +kernel
theorem dX2_roundsToRest_1 : decode cX2_roundsToRest 1 = .ok (.lstore_n 3, 1) := by decide +kernel
theorem dX2_roundsToRest_2 : decode cX2_roundsToRest 2 = .ok (.aload_n 0, 1) := by decide +kernel
theorem dX2_roundsToRest_3 : decode cX2_roundsToRest 3 = .ok (.invokevirtual 68, 3) := by decide +kernel
theorem dX2_roundsToRest_6 : decode cX2_roundsToRest 6 = .ok (.iconst 0, 1) := by decide +kernel
theorem dX2_roundsToRest_7 : decode cX2_roundsToRest 7 = .ok (.istore 5, 2) := by decide +kernel
theorem dX2_roundsToRest_9 : decode cX2_roundsToRest 9 = .ok (.iload 5, 2) := by decide +kernel
theorem dX2_roundsToRest_11 : decode cX2_roundsToRest 11 = .ok (.aload_n 0, 1) := by decide +kernel
theorem dX2_roundsToRest_12 : decode cX2_roundsToRest 12 = .ok (.getfield 15, 3) := by decide +kernel
theorem dX2_roundsToRest_15 : decode cX2_roundsToRest 15 = .ok (.iload_n 2, 1) := by decide +kernel
theorem dX2_roundsToRest_16 : decode cX2_roundsToRest 16 = .ok (.iaload, 1) := by decide +kernel
theorem dX2_roundsToRest_17 : decode cX2_roundsToRest 17 = .ok (.if_icmp .ge 53, 3) := by decide +kernel
theorem dX2_roundsToRest_20 : decode cX2_roundsToRest 20 = .ok (.aload_n 0, 1) := by decide +kernel
theorem dX2_roundsToRest_21 : decode cX2_roundsToRest 21 = .ok (.getfield 21, 3) := by decide +kernel
theorem dX2_roundsToRest_24 : decode cX2_roundsToRest 24 = .ok (.iload 5, 2) := by decide +kernel
theorem dX2_roundsToRest_26 : decode cX2_roundsToRest 26 = .ok (.iaload, 1) := by decide +kernel
theorem dX2_roundsToRest_27 : decode cX2_roundsToRest 27 = .ok (.ifCond .ge 26, 3) := by decide +kernel
theorem dX2_roundsToRest_30 : decode cX2_roundsToRest 30 = .ok (.aload_n 0, 1) := by decide +kernel
theorem dX2_roundsToRest_31 : decode cX2_roundsToRest 31 = .ok (.aload_n 1, 1) := by decide +kernel
theorem dX2_roundsToRest_32 : decode cX2_roundsToRest 32 = .ok (.iload_n 2, 1) := by decide +kernel
theorem dX2_roundsToRest_33 : decode cX2_roundsToRest 33 = .ok (.iload 5, 2) := by decide +kernel
theorem dX2_roundsToRest_35 : decode cX2_roundsToRest 35 = .ok (.invokevirtual 75, 3) := by decide +kernel
theorem dX2_roundsToRest_38 : decode cX2_roundsToRest 38 = .ok (.i2l, 1) := by decide +kernel
theorem dX2_roundsToRest_39 : decode cX2_roundsToRest 39 = .ok (.lstore 6, 2) := by decide +kernel
theorem dX2_roundsToRest_41 : decode cX2_roundsToRest 41 = .ok (.lload_n 3, 1) := by decide +kernel
theorem dX2_roundsToRest_42 : decode cX2_roundsToRest 42 = .ok (.lload_n 3, 1) := by decide +kernel
theorem dX2_roundsToRest_43 : decode cX2_roundsToRest 43 = .ok (.lload 6, 2) := by decide +kernel
theorem dX2_roundsToRest_45 : decode cX2_roundsToRest 45 = .ok (.invokestatic 79, 3) := by decide +kernel
theorem dX2_roundsToRest_48 : decode cX2_roundsToRest 48 = .ok (.ldiv, 1) := by decide +kernel
theorem dX2_roundsToRest_49 : decode cX2_roundsToRest 49 = .ok (.lload 6, 2) := by decide +kernel
theorem dX2_roundsToRest_51 : decode cX2_roundsToRest 51 = .ok (.lmul, 1) := by decide +kernel
theorem dX2_roundsToRest_52 : decode cX2_roundsToRest 52 = .ok (.lstore_n 3, 1) := by decide +kernel
theorem dX2_roundsToRest_53 : decode cX2_roundsToRest 53 = .ok (.lload_n 3, 1) := by decide +kernel
theorem dX2_roundsToRest_54 : decode cX2_roundsToRest 54 = .ok (.ldc2_w 83, 3) := by decide +kernel
theorem dX2_roundsToRest_57 : decode cX2_roundsToRest 57 = .ok (.lcmp, 1) := by decide +kernel
theorem dX2_roundsToRest_58 : decode cX2_roundsToRest 58 = .ok (.ifCond .le 6, 3) := by decide +kernel
theorem dX2_roundsToRest_61 : decode cX2_roundsToRest 61 = .ok (.bipush (-7), 2) := by decide +kernel
theorem dX2_roundsToRest_63 : decode cX2_roundsToRest 63 = .ok (.ireturn, 1) := by decide +kernel
theorem dX2_roundsToRest_64 : decode cX2_roundsToRest 64 = .ok (.iinc 5 1, 3) := by decide +kernel
theorem dX2_roundsToRest_67 : decode cX2_roundsToRest 67 = .ok (.goto (-58), 3) := by decide +kernel
theorem dX2_roundsToRest_70 : decode cX2_roundsToRest 70 = .ok (.lload_n 3, 1) := by decide +kernel
theorem dX2_roundsToRest_71 : decode cX2_roundsToRest 71 = .ok (.l2i, 1) := by decide +kernel
theorem dX2_roundsToRest_72 : decode cX2_roundsToRest 72 = .ok (.ireturn, 1) := by decide +kernel
theorem dX2_ringLength_0 : decode cX2_ringLength 0 = .ok (.iconst 0, 1) := by decide +kernel
theorem dX2_ringLength_1 : decode cX2_ringLength 1 = .ok (.istore 4, 2) := by decide +kernel
theorem dX2_ringLength_3 : decode cX2_ringLength 3 = .ok (.iload_n 3, 1) := by decide +kernel
theorem dX2_ringLength_4 : decode cX2_ringLength 4 = .ok (.istore 5, 2) := by decide +kernel
theorem dX2_ringLength_6 : decode cX2_ringLength 6 = .ok (.iload 4, 2) := by decide +kernel
theorem dX2_ringLength_8 : decode cX2_ringLength 8 = .ok (.aload_n 0, 1) := by decide +kernel
theorem dX2_ringLength_9 : decode cX2_ringLength 9 = .ok (.getfield 15, 3) := by decide +kernel
theorem dX2_ringLength_12 : decode cX2_ringLength 12 = .ok (.iload_n 2, 1) := by decide +kernel
theorem dX2_ringLength_13 : decode cX2_ringLength 13 = .ok (.iaload, 1) := by decide +kernel
theorem dX2_ringLength_14 : decode cX2_ringLength 14 = .ok (.if_icmp .ge 72, 3) := by decide +kernel
theorem dX2_ringLength_17 : decode cX2_ringLength 17 = .ok (.aload_n 0, 1) := by decide +kernel
theorem dX2_ringLength_18 : decode cX2_ringLength 18 = .ok (.getfield 21, 3) := by decide +kernel
theorem dX2_ringLength_21 : decode cX2_ringLength 21 = .ok (.iload 5, 2) := by decide +kernel
theorem dX2_ringLength_23 : decode cX2_ringLength 23 = .ok (.iaload, 1) := by decide +kernel
theorem dX2_ringLength_24 : decode cX2_ringLength 24 = .ok (.ifCond .ge 62, 3) := by decide +kernel
theorem dX2_ringLength_27 : decode cX2_ringLength 27 = .ok (.aload_n 0, 1) := by decide +kernel
theorem dX2_ringLength_28 : decode cX2_ringLength 28 = .ok (.getfield 21, 3) := by decide +kernel
theorem dX2_ringLength_31 : decode cX2_ringLength 31 = .ok (.iload 5, 2) := by decide +kernel
theorem dX2_ringLength_33 : decode cX2_ringLength 33 = .ok (.iconst 0, 1) := by decide +kernel
theorem dX2_ringLength_34 : decode cX2_ringLength 34 = .ok (.iastore, 1) := by decide +kernel
theorem dX2_ringLength_35 : decode cX2_ringLength 35 = .ok (.iconst 0, 1) := by decide +kernel
theorem dX2_ringLength_36 : decode cX2_ringLength 36 = .ok (.istore 6, 2) := by decide +kernel
theorem dX2_ringLength_38 : decode cX2_ringLength 38 = .ok (.iload 6, 2) := by decide +kernel
theorem dX2_ringLength_40 : decode cX2_ringLength 40 = .ok (.aload_n 1, 1) := by decide +kernel
theorem dX2_ringLength_41 : decode cX2_ringLength 41 = .ok (.getfield 85, 3) := by decide +kernel
theorem dX2_ringLength_44 : decode cX2_ringLength 44 = .ok (.if_icmp .ge 36, 3) := by decide +kernel
theorem dX2_ringLength_47 : decode cX2_ringLength 47 = .ok (.aload_n 0, 1) := by decide +kernel
theorem dX2_ringLength_48 : decode cX2_ringLength 48 = .ok (.getfield 11, 3) := by decide +kernel
theorem dX2_ringLength_51 : decode cX2_ringLength 51 = .ok (.aload_n 1, 1) := by decide +kernel
theorem dX2_ringLength_52 : decode cX2_ringLength 52 = .ok (.iload 6, 2) := by decide +kernel
theorem dX2_ringLength_54 : decode cX2_ringLength 54 = .ok (.invokevirtual 90, 3) := by decide +kernel
theorem dX2_ringLength_57 : decode cX2_ringLength 57 = .ok (.sipush 512, 3) := by decide +kernel
theorem dX2_ringLength_60 : decode cX2_ringLength 60 = .ok (.imul, 1) := by decide +kernel
theorem dX2_ringLength_61 : decode cX2_ringLength 61 = .ok (.aload_n 0, 1) := by decide +kernel
theorem dX2_ringLength_62 : decode cX2_ringLength 62 = .ok (.getfield 18, 3) := by decide +kernel
theorem dX2_ringLength_65 : decode cX2_ringLength 65 = .ok (.iload_n 2, 1) := by decide +kernel
theorem dX2_ringLength_66 : decode cX2_ringLength 66 = .ok (.iaload, 1) := by decide +kernel
theorem dX2_ringLength_67 : decode cX2_ringLength 67 = .ok (.iadd, 1) := by decide +kernel
theorem dX2_ringLength_68 : decode cX2_ringLength 68 = .ok (.iload 5, 2) := by decide +kernel
theorem dX2_ringLength_70 : decode cX2_ringLength 70 = .ok (.iadd, 1) := by decide +kernel
theorem dX2_ringLength_71 : decode cX2_ringLength 71 = .ok (.iaload, 1) := by decide +kernel
theorem dX2_ringLength_72 : decode cX2_ringLength 72 = .ok (.istore 5, 2) := by decide +kernel
theorem dX2_ringLength_74 : decode cX2_ringLength 74 = .ok (.iinc 6 1, 3) := by decide +kernel
theorem dX2_ringLength_77 : decode cX2_ringLength 77 = .ok (.goto (-39), 3) := by decide +kernel
theorem dX2_ringLength_80 : decode cX2_ringLength 80 = .ok (.iinc 4 1, 3) := by decide +kernel
theorem dX2_ringLength_83 : decode cX2_ringLength 83 = .ok (.goto (-77), 3) := by decide +kernel
theorem dX2_ringLength_86 : decode cX2_ringLength 86 = .ok (.iload 4, 2) := by decide +kernel
theorem dX2_ringLength_88 : decode cX2_ringLength 88 = .ok (.iconst 1, 1) := by decide +kernel
theorem dX2_ringLength_89 : decode cX2_ringLength 89 = .ok (.invokestatic 94, 3) := by decide +kernel
theorem dX2_ringLength_92 : decode cX2_ringLength 92 = .ok (.ireturn, 1) := by decide +kernel
theorem dX2_commonDivisor_0 : decode cX2_commonDivisor 0 = .ok (.lload_n 0, 1) := by decide +kernel
theorem dX2_commonDivisor_1 : decode cX2_commonDivisor 1 = .ok (.lstore 4, 2) := by decide +kernel
theorem dX2_commonDivisor_3 : decode cX2_commonDivisor 3 = .ok (.lload_n 2, 1) := by decide +kernel
theorem dX2_commonDivisor_4 : decode cX2_commonDivisor 4 = .ok (.lstore 6, 2) := by decide +kernel
theorem dX2_commonDivisor_6 : decode cX2_commonDivisor 6 = .ok (.iconst 0, 1) := by decide +kernel
theorem dX2_commonDivisor_7 : decode cX2_commonDivisor 7 = .ok (.istore 8, 2) := by decide +kernel
theorem dX2_commonDivisor_9 : decode cX2_commonDivisor 9 = .ok (.iload 8, 2) := by decide +kernel
theorem dX2_commonDivisor_11 : decode cX2_commonDivisor 11 = .ok (.bipush 100, 2) := by decide +kernel
theorem dX2_commonDivisor_13 : decode cX2_commonDivisor 13 = .ok (.if_icmp .ge 31, 3) := by decide +kernel
theorem dX2_commonDivisor_16 : decode cX2_commonDivisor 16 = .ok (.lload 6, 2) := by decide +kernel
theorem dX2_commonDivisor_18 : decode cX2_commonDivisor 18 = .ok (.lconst 0, 1) := by decide +kernel
theorem dX2_commonDivisor_19 : decode cX2_commonDivisor 19 = .ok (.lcmp, 1) := by decide +kernel
theorem dX2_commonDivisor_20 : decode cX2_commonDivisor 20 = .ok (.ifCond .le 24, 3) := by decide +kernel
theorem dX2_commonDivisor_23 : decode cX2_commonDivisor 23 = .ok (.lload 4, 2) := by decide +kernel
theorem dX2_commonDivisor_25 : decode cX2_commonDivisor 25 = .ok (.lload 6, 2) := by decide +kernel
theorem dX2_commonDivisor_27 : decode cX2_commonDivisor 27 = .ok (.lrem, 1) := by decide +kernel
theorem dX2_commonDivisor_28 : decode cX2_commonDivisor 28 = .ok (.lstore 9, 2) := by decide +kernel
theorem dX2_commonDivisor_30 : decode cX2_commonDivisor 30 = .ok (.lload 6, 2) := by decide +kernel
theorem dX2_commonDivisor_32 : decode cX2_commonDivisor 32 = .ok (.lstore 4, 2) := by decide +kernel
theorem dX2_commonDivisor_34 : decode cX2_commonDivisor 34 = .ok (.lload 9, 2) := by decide +kernel
theorem dX2_commonDivisor_36 : decode cX2_commonDivisor 36 = .ok (.lstore 6, 2) := by decide +kernel
theorem dX2_commonDivisor_38 : decode cX2_commonDivisor 38 = .ok (.iinc 8 1, 3) := by decide +kernel
theorem dX2_commonDivisor_41 : decode cX2_commonDivisor 41 = .ok (.goto (-32), 3) := by decide +kernel
theorem dX2_commonDivisor_44 : decode cX2_commonDivisor 44 = .ok (.lload 4, 2) := by decide +kernel
theorem dX2_commonDivisor_46 : decode cX2_commonDivisor 46 = .ok (.lconst 1, 1) := by decide +kernel
theorem dX2_commonDivisor_47 : decode cX2_commonDivisor 47 = .ok (.invokestatic 100, 3) := by decide +kernel
theorem dX2_commonDivisor_50 : decode cX2_commonDivisor 50 = .ok (.lreturn, 1) := by decide +kernel
theorem dX2_packed_0 : decode cX2_packed 0 = .ok (.lconst 0, 1) := by decide +kernel
theorem dX2_packed_1 : decode cX2_packed 1 = .ok (.lstore_n 3, 1) := by decide +kernel
theorem dX2_packed_2 : decode cX2_packed 2 = .ok (.iconst 0, 1) := by decide +kernel
theorem dX2_packed_3 : decode cX2_packed 3 = .ok (.istore 5, 2) := by decide +kernel
theorem dX2_packed_5 : decode cX2_packed 5 = .ok (.iload 5, 2) := by decide +kernel
theorem dX2_packed_7 : decode cX2_packed 7 = .ok (.aload_n 0, 1) := by decide +kernel
theorem dX2_packed_8 : decode cX2_packed 8 = .ok (.getfield 15, 3) := by decide +kernel
theorem dX2_packed_11 : decode cX2_packed 11 = .ok (.iload_n 2, 1) := by decide +kernel
theorem dX2_packed_12 : decode cX2_packed 12 = .ok (.iaload, 1) := by decide +kernel
theorem dX2_packed_13 : decode cX2_packed 13 = .ok (.if_icmp .ge 38, 3) := by decide +kernel
theorem dX2_packed_16 : decode cX2_packed 16 = .ok (.lload_n 3, 1) := by decide +kernel
theorem dX2_packed_17 : decode cX2_packed 17 = .ok (.aload_n 0, 1) := by decide +kernel
theorem dX2_packed_18 : decode cX2_packed 18 = .ok (.getfield 11, 3) := by decide +kernel
theorem dX2_packed_21 : decode cX2_packed 21 = .ok (.iload_n 1, 1) := by decide +kernel
theorem dX2_packed_22 : decode cX2_packed 22 = .ok (.sipush 512, 3) := by decide +kernel
theorem dX2_packed_25 : decode cX2_packed 25 = .ok (.imul, 1) := by decide +kernel
theorem dX2_packed_26 : decode cX2_packed 26 = .ok (.aload_n 0, 1) := by decide +kernel
theorem dX2_packed_27 : decode cX2_packed 27 = .ok (.getfield 18, 3) := by decide +kernel
theorem dX2_packed_30 : decode cX2_packed 30 = .ok (.iload_n 2, 1) := by decide +kernel
theorem dX2_packed_31 : decode cX2_packed 31 = .ok (.iaload, 1) := by decide +kernel
theorem dX2_packed_32 : decode cX2_packed 32 = .ok (.iadd, 1) := by decide +kernel
theorem dX2_packed_33 : decode cX2_packed 33 = .ok (.iload 5, 2) := by decide +kernel
theorem dX2_packed_35 : decode cX2_packed 35 = .ok (.iadd, 1) := by decide +kernel
theorem dX2_packed_36 : decode cX2_packed 36 = .ok (.iaload, 1) := by decide +kernel
theorem dX2_packed_37 : decode cX2_packed 37 = .ok (.i2l, 1) := by decide +kernel
theorem dX2_packed_38 : decode cX2_packed 38 = .ok (.iconst 4, 1) := by decide +kernel
theorem dX2_packed_39 : decode cX2_packed 39 = .ok (.iload 5, 2) := by decide +kernel
theorem dX2_packed_41 : decode cX2_packed 41 = .ok (.imul, 1) := by decide +kernel
theorem dX2_packed_42 : decode cX2_packed 42 = .ok (.lshl, 1) := by decide +kernel
theorem dX2_packed_43 : decode cX2_packed 43 = .ok (.lor, 1) := by decide +kernel
theorem dX2_packed_44 : decode cX2_packed 44 = .ok (.lstore_n 3, 1) := by decide +kernel
theorem dX2_packed_45 : decode cX2_packed 45 = .ok (.iinc 5 1, 3) := by decide +kernel
theorem dX2_packed_48 : decode cX2_packed 48 = .ok (.goto (-43), 3) := by decide +kernel
theorem dX2_packed_51 : decode cX2_packed 51 = .ok (.lload_n 3, 1) := by decide +kernel
theorem dX2_packed_52 : decode cX2_packed 52 = .ok (.lreturn, 1) := by decide +kernel
theorem dX3_restart_0 : decode cX3_restart 0 = .ok (.aload_n 0, 1) := by decide +kernel
theorem dX3_restart_1 : decode cX3_restart 1 = .ok (.iload_n 1, 1) := by decide +kernel
theorem dX3_restart_2 : decode cX3_restart 2 = .ok (.putfield 31, 3) := by decide +kernel
theorem dX3_restart_5 : decode cX3_restart 5 = .ok (.aload_n 0, 1) := by decide +kernel
theorem dX3_restart_6 : decode cX3_restart 6 = .ok (.iconst 0, 1) := by decide +kernel
theorem dX3_restart_7 : decode cX3_restart 7 = .ok (.putfield 34, 3) := by decide +kernel
theorem dX3_restart_10 : decode cX3_restart 10 = .ok (.aload_n 0, 1) := by decide +kernel
theorem dX3_restart_11 : decode cX3_restart 11 = .ok (.invokevirtual 44, 3) := by decide +kernel
theorem dX3_restart_14 : decode cX3_restart 14 = .ok (.return_, 1) := by decide +kernel
theorem dX3_isState_0 : decode cX3_isState 0 = .ok (.iload_n 1, 1) := by decide +kernel
theorem dX3_isState_1 : decode cX3_isState 1 = .ok (.ifCond .lt 15, 3) := by decide +kernel
theorem dX3_isState_4 : decode cX3_isState 4 = .ok (.iload_n 1, 1) := by decide +kernel
theorem dX3_isState_5 : decode cX3_isState 5 = .ok (.aload_n 0, 1) := by decide +kernel
theorem dX3_isState_6 : decode cX3_isState 6 = .ok (.getfield 34, 3) := by decide +kernel
theorem dX3_isState_9 : decode cX3_isState 9 = .ok (.if_icmp .ge 7, 3) := by decide +kernel
theorem dX3_isState_12 : decode cX3_isState 12 = .ok (.iconst 1, 1) := by decide +kernel
theorem dX3_isState_13 : decode cX3_isState 13 = .ok (.goto 4, 3) := by decide +kernel
theorem dX3_isState_16 : decode cX3_isState 16 = .ok (.iconst 0, 1) := by decide +kernel
theorem dX3_isState_17 : decode cX3_isState 17 = .ok (.ireturn, 1) := by decide +kernel
theorem dX3_isLetter_0 : decode cX3_isLetter 0 = .ok (.iload_n 1, 1) := by decide +kernel
theorem dX3_isLetter_1 : decode cX3_isLetter 1 = .ok (.ifCond .lt 15, 3) := by decide +kernel
theorem dX3_isLetter_4 : decode cX3_isLetter 4 = .ok (.iload_n 1, 1) := by decide +kernel
theorem dX3_isLetter_5 : decode cX3_isLetter 5 = .ok (.aload_n 0, 1) := by decide +kernel
theorem dX3_isLetter_6 : decode cX3_isLetter 6 = .ok (.getfield 31, 3) := by decide +kernel
theorem dX3_isLetter_9 : decode cX3_isLetter 9 = .ok (.if_icmp .ge 7, 3) := by decide +kernel
theorem dX3_isLetter_12 : decode cX3_isLetter 12 = .ok (.iconst 1, 1) := by decide +kernel
theorem dX3_isLetter_13 : decode cX3_isLetter 13 = .ok (.goto 4, 3) := by decide +kernel
theorem dX3_isLetter_16 : decode cX3_isLetter 16 = .ok (.iconst 0, 1) := by decide +kernel
theorem dX3_isLetter_17 : decode cX3_isLetter 17 = .ok (.ireturn, 1) := by decide +kernel
theorem dX3_isBack_0 : decode cX3_isBack 0 = .ok (.aload_n 0, 1) := by decide +kernel
theorem dX3_isBack_1 : decode cX3_isBack 1 = .ok (.getfield 37, 3) := by decide +kernel
theorem dX3_isBack_4 : decode cX3_isBack 4 = .ok (.iload_n 1, 1) := by decide +kernel
theorem dX3_isBack_5 : decode cX3_isBack 5 = .ok (.ishr, 1) := by decide +kernel
theorem dX3_isBack_6 : decode cX3_isBack 6 = .ok (.iconst 1, 1) := by decide +kernel
theorem dX3_isBack_7 : decode cX3_isBack 7 = .ok (.iand, 1) := by decide +kernel
theorem dX3_isBack_8 : decode cX3_isBack 8 = .ok (.iconst 1, 1) := by decide +kernel
theorem dX3_isBack_9 : decode cX3_isBack 9 = .ok (.if_icmp .ne 7, 3) := by decide +kernel
theorem dX3_isBack_12 : decode cX3_isBack 12 = .ok (.iconst 1, 1) := by decide +kernel
theorem dX3_isBack_13 : decode cX3_isBack 13 = .ok (.goto 4, 3) := by decide +kernel
theorem dX3_isBack_16 : decode cX3_isBack 16 = .ok (.iconst 0, 1) := by decide +kernel
theorem dX3_isBack_17 : decode cX3_isBack 17 = .ok (.ireturn, 1) := by decide +kernel
theorem dX3_canRead_0 : decode cX3_canRead 0 = .ok (.iconst 0, 1) := by decide +kernel
theorem dX3_canRead_1 : decode cX3_canRead 1 = .ok (.istore_n 3, 1) := by decide +kernel
theorem dX3_canRead_2 : decode cX3_canRead 2 = .ok (.iload_n 3, 1) := by decide +kernel
theorem dX3_canRead_3 : decode cX3_canRead 3 = .ok (.aload_n 0, 1) := by decide +kernel
theorem dX3_canRead_4 : decode cX3_canRead 4 = .ok (.getfield 31, 3) := by decide +kernel
theorem dX3_canRead_7 : decode cX3_canRead 7 = .ok (.if_icmp .ge 56, 3) := by decide +kernel
theorem dX3_canRead_10 : decode cX3_canRead 10 = .ok (.aload_n 1, 1) := by decide +kernel
theorem dX3_canRead_11 : decode cX3_canRead 11 = .ok (.iload_n 2, 1) := by decide +kernel
theorem dX3_canRead_12 : decode cX3_canRead 12 = .ok (.iload_n 3, 1) := by decide +kernel
theorem dX3_canRead_13 : decode cX3_canRead 13 = .ok (.invokevirtual 47, 3) := by decide +kernel
theorem dX3_canRead_16 : decode cX3_canRead 16 = .ok (.ifCond .eq 41, 3) := by decide +kernel
theorem dX3_canRead_19 : decode cX3_canRead 19 = .ok (.iload_n 2, 1) := by decide +kernel
theorem dX3_canRead_20 : decode cX3_canRead 20 = .ok (.iconst 2, 1) := by decide +kernel
theorem dX3_canRead_21 : decode cX3_canRead 21 = .ok (.iload_n 3, 1) := by decide +kernel
theorem dX3_canRead_22 : decode cX3_canRead 22 = .ok (.imul, 1) := by decide +kernel
theorem dX3_canRead_23 : decode cX3_canRead 23 = .ok (.iadd, 1) := by decide +kernel
theorem dX3_canRead_24 : decode cX3_canRead 24 = .ok (.istore 4, 2) := by decide +kernel
theorem dX3_canRead_26 : decode cX3_canRead 26 = .ok (.aload_n 0, 1) := by decide +kernel
theorem dX3_canRead_27 : decode cX3_canRead 27 = .ok (.aload_n 1, 1) := by decide +kernel
theorem dX3_canRead_28 : decode cX3_canRead 28 = .ok (.getfield 53, 3) := by decide +kernel
theorem dX3_canRead_31 : decode cX3_canRead 31 = .ok (.iload 4, 2) := by decide +kernel
theorem dX3_canRead_33 : decode cX3_canRead 33 = .ok (.iaload, 1) := by decide +kernel
theorem dX3_canRead_34 : decode cX3_canRead 34 = .ok (.invokevirtual 56, 3) := by decide +kernel
theorem dX3_canRead_37 : decode cX3_canRead 37 = .ok (.ifCond .eq 18, 3) := by decide +kernel
theorem dX3_canRead_40 : decode cX3_canRead 40 = .ok (.aload_n 1, 1) := by decide +kernel
theorem dX3_canRead_41 : decode cX3_canRead 41 = .ok (.getfield 53, 3) := by decide +kernel
theorem dX3_canRead_44 : decode cX3_canRead 44 = .ok (.iload 4, 2) := by decide +kernel
theorem dX3_canRead_46 : decode cX3_canRead 46 = .ok (.iconst 1, 1) := by decide +kernel
theorem dX3_canRead_47 : decode cX3_canRead 47 = .ok (.iadd, 1) := by decide +kernel
theorem dX3_canRead_48 : decode cX3_canRead 48 = .ok (.iaload, 1) := by decide +kernel
theorem dX3_canRead_49 : decode cX3_canRead 49 = .ok (.invokestatic 60, 3) := by decide +kernel
theorem dX3_canRead_52 : decode cX3_canRead 52 = .ok (.ifCond .ne 5, 3) := by decide +kernel
theorem dX3_canRead_55 : decode cX3_canRead 55 = .ok (.iconst 0, 1) := by decide +kernel
theorem dX3_canRead_56 : decode cX3_canRead 56 = .ok (.ireturn, 1) := by decide +kernel
theorem dX3_canRead_57 : decode cX3_canRead 57 = .ok (.iinc 3 1, 3) := by decide +kernel
theorem dX3_canRead_60 : decode cX3_canRead 60 = .ok (.goto (-58), 3) := by decide +kernel
theorem dX3_canRead_63 : decode cX3_canRead 63 = .ok (.iconst 1, 1) := by decide +kernel
theorem dX3_canRead_64 : decode cX3_canRead 64 = .ok (.ireturn, 1) := by decide +kernel
theorem dX3_read_0 : decode cX3_read 0 = .ok (.iconst 0, 1) := by decide +kernel
theorem dX3_read_1 : decode cX3_read 1 = .ok (.istore_n 3, 1) := by decide +kernel
theorem dX3_read_2 : decode cX3_read 2 = .ok (.iload_n 3, 1) := by decide +kernel
theorem dX3_read_3 : decode cX3_read 3 = .ok (.aload_n 0, 1) := by decide +kernel
theorem dX3_read_4 : decode cX3_read 4 = .ok (.getfield 31, 3) := by decide +kernel
theorem dX3_read_7 : decode cX3_read 7 = .ok (.if_icmp .ge 81, 3) := by decide +kernel
theorem dX3_read_10 : decode cX3_read 10 = .ok (.aload_n 1, 1) := by decide +kernel
theorem dX3_read_11 : decode cX3_read 11 = .ok (.iload_n 2, 1) := by decide +kernel
theorem dX3_read_12 : decode cX3_read 12 = .ok (.iload_n 3, 1) := by decide +kernel
theorem dX3_read_13 : decode cX3_read 13 = .ok (.invokevirtual 47, 3) := by decide +kernel
theorem dX3_read_16 : decode cX3_read 16 = .ok (.istore 4, 2) := by decide +kernel
theorem dX3_read_18 : decode cX3_read 18 = .ok (.aload_n 0, 1) := by decide +kernel
theorem dX3_read_19 : decode cX3_read 19 = .ok (.getfield 34, 3) := by decide +kernel
theorem dX3_read_22 : decode cX3_read 22 = .ok (.iconst 4, 1) := by decide +kernel
theorem dX3_read_23 : decode cX3_read 23 = .ok (.imul, 1) := by decide +kernel
theorem dX3_read_24 : decode cX3_read 24 = .ok (.iload_n 3, 1) := by decide +kernel
theorem dX3_read_25 : decode cX3_read 25 = .ok (.iadd, 1) := by decide +kernel
theorem dX3_read_26 : decode cX3_read 26 = .ok (.istore 5, 2) := by decide +kernel
theorem dX3_read_28 : decode cX3_read 28 = .ok (.aload_n 0, 1) := by decide +kernel
theorem dX3_read_29 : decode cX3_read 29 = .ok (.getfield 9, 3) := by decide +kernel
theorem dX3_read_32 : decode cX3_read 32 = .ok (.iload 5, 2) := by decide +kernel
theorem dX3_read_34 : decode cX3_read 34 = .ok (.iload 4, 2) := by decide +kernel
theorem dX3_read_36 : decode cX3_read 36 = .ok (.ifCond .eq 16, 3) := by decide +kernel
theorem dX3_read_39 : decode cX3_read 39 = .ok (.aload_n 1, 1) := by decide +kernel
theorem dX3_read_40 : decode cX3_read 40 = .ok (.getfield 53, 3) := by decide +kernel
theorem dX3_read_43 : decode cX3_read 43 = .ok (.iload_n 2, 1) := by decide +kernel
theorem dX3_read_44 : decode cX3_read 44 = .ok (.iconst 2, 1) := by decide +kernel
theorem dX3_read_45 : decode cX3_read 45 = .ok (.iload_n 3, 1) := by decide +kernel
theorem dX3_read_46 : decode cX3_read 46 = .ok (.imul, 1) := by decide +kernel
theorem dX3_read_47 : decode cX3_read 47 = .ok (.iadd, 1) := by decide +kernel
theorem dX3_read_48 : decode cX3_read 48 = .ok (.iaload, 1) := by decide +kernel
theorem dX3_read_49 : decode cX3_read 49 = .ok (.goto 4, 3) := by decide +kernel
theorem dX3_read_52 : decode cX3_read 52 = .ok (.iload_n 3, 1) := by decide +kernel
theorem dX3_read_53 : decode cX3_read 53 = .ok (.iastore, 1) := by decide +kernel
theorem dX3_read_54 : decode cX3_read 54 = .ok (.aload_n 0, 1) := by decide +kernel
theorem dX3_read_55 : decode cX3_read 55 = .ok (.getfield 15, 3) := by decide +kernel
theorem dX3_read_58 : decode cX3_read 58 = .ok (.iload 5, 2) := by decide +kernel
theorem dX3_read_60 : decode cX3_read 60 = .ok (.iload 4, 2) := by decide +kernel
theorem dX3_read_62 : decode cX3_read 62 = .ok (.ifCond .eq 18, 3) := by decide +kernel
theorem dX3_read_65 : decode cX3_read 65 = .ok (.aload_n 1, 1) := by decide +kernel
theorem dX3_read_66 : decode cX3_read 66 = .ok (.getfield 53, 3) := by decide +kernel
theorem dX3_read_69 : decode cX3_read 69 = .ok (.iload_n 2, 1) := by decide +kernel
theorem dX3_read_70 : decode cX3_read 70 = .ok (.iconst 2, 1) := by decide +kernel
theorem dX3_read_71 : decode cX3_read 71 = .ok (.iload_n 3, 1) := by decide +kernel
theorem dX3_read_72 : decode cX3_read 72 = .ok (.imul, 1) := by decide +kernel
theorem dX3_read_73 : decode cX3_read 73 = .ok (.iadd, 1) := by decide +kernel
theorem dX3_read_74 : decode cX3_read 74 = .ok (.iconst 1, 1) := by decide +kernel
theorem dX3_read_75 : decode cX3_read 75 = .ok (.iadd, 1) := by decide +kernel
theorem dX3_read_76 : decode cX3_read 76 = .ok (.iaload, 1) := by decide +kernel
theorem dX3_read_77 : decode cX3_read 77 = .ok (.goto 4, 3) := by decide +kernel
theorem dX3_read_80 : decode cX3_read 80 = .ok (.iconst (-1), 1) := by decide +kernel
theorem dX3_read_81 : decode cX3_read 81 = .ok (.iastore, 1) := by decide +kernel
theorem dX3_read_82 : decode cX3_read 82 = .ok (.iinc 3 1, 3) := by decide +kernel
theorem dX3_read_85 : decode cX3_read 85 = .ok (.goto (-83), 3) := by decide +kernel
theorem dX3_read_88 : decode cX3_read 88 = .ok (.aload_n 0, 1) := by decide +kernel
theorem dX3_read_89 : decode cX3_read 89 = .ok (.dup, 1) := by decide +kernel
theorem dX3_read_90 : decode cX3_read 90 = .ok (.getfield 34, 3) := by decide +kernel
theorem dX3_read_93 : decode cX3_read 93 = .ok (.iconst 1, 1) := by decide +kernel
theorem dX3_read_94 : decode cX3_read 94 = .ok (.iadd, 1) := by decide +kernel
theorem dX3_read_95 : decode cX3_read 95 = .ok (.putfield 34, 3) := by decide +kernel
theorem dX3_read_98 : decode cX3_read 98 = .ok (.aload_n 0, 1) := by decide +kernel
theorem dX3_read_99 : decode cX3_read 99 = .ok (.invokevirtual 44, 3) := by decide +kernel
theorem dX3_read_102 : decode cX3_read 102 = .ok (.return_, 1) := by decide +kernel
theorem dX3_rewire_0 : decode cX3_rewire 0 = .ok (.aload_n 0, 1) := by decide +kernel
theorem dX3_rewire_1 : decode cX3_rewire 1 = .ok (.getfield 9, 3) := by decide +kernel
theorem dX3_rewire_4 : decode cX3_rewire 4 = .ok (.iload_n 1, 1) := by decide +kernel
theorem dX3_rewire_5 : decode cX3_rewire 5 = .ok (.iconst 4, 1) := by decide +kernel
theorem dX3_rewire_6 : decode cX3_rewire 6 = .ok (.imul, 1) := by decide +kernel
theorem dX3_rewire_7 : decode cX3_rewire 7 = .ok (.iload_n 2, 1) := by decide +kernel
theorem dX3_rewire_8 : decode cX3_rewire 8 = .ok (.iadd, 1) := by decide +kernel
theorem dX3_rewire_9 : decode cX3_rewire 9 = .ok (.iload_n 3, 1) := by decide +kernel
theorem dX3_rewire_10 : decode cX3_rewire 10 = .ok (.iastore, 1) := by decide +kernel
theorem dX3_rewire_11 : decode cX3_rewire 11 = .ok (.aload_n 0, 1) := by decide +kernel
theorem dX3_rewire_12 : decode cX3_rewire 12 = .ok (.getfield 15, 3) := by decide +kernel
theorem dX3_rewire_15 : decode cX3_rewire 15 = .ok (.iload_n 1, 1) := by decide +kernel
theorem dX3_rewire_16 : decode cX3_rewire 16 = .ok (.iconst 4, 1) := by decide +kernel
theorem dX3_rewire_17 : decode cX3_rewire 17 = .ok (.imul, 1) := by decide +kernel
theorem dX3_rewire_18 : decode cX3_rewire 18 = .ok (.iload_n 2, 1) := by decide +kernel
theorem dX3_rewire_19 : decode cX3_rewire 19 = .ok (.iadd, 1) := by decide +kernel
theorem dX3_rewire_20 : decode cX3_rewire 20 = .ok (.iload 4, 2) := by decide +kernel
theorem dX3_rewire_22 : decode cX3_rewire 22 = .ok (.iastore, 1) := by decide +kernel
theorem dX3_rewire_23 : decode cX3_rewire 23 = .ok (.aload_n 0, 1) := by decide +kernel
theorem dX3_rewire_24 : decode cX3_rewire 24 = .ok (.invokevirtual 44, 3) := by decide +kernel
theorem dX3_rewire_27 : decode cX3_rewire 27 = .ok (.return_, 1) := by decide +kernel
theorem dX3_refresh_0 : decode cX3_refresh 0 = .ok (.iconst 1, 1) := by decide +kernel
theorem dX3_refresh_1 : decode cX3_refresh 1 = .ok (.aload_n 0, 1) := by decide +kernel
theorem dX3_refresh_2 : decode cX3_refresh 2 = .ok (.getfield 34, 3) := by decide +kernel
theorem dX3_refresh_5 : decode cX3_refresh 5 = .ok (.ishl, 1) := by decide +kernel
theorem dX3_refresh_6 : decode cX3_refresh 6 = .ok (.iconst 1, 1) := by decide +kernel
theorem dX3_refresh_7 : decode cX3_refresh 7 = .ok (.isub, 1) := by decide +kernel
theorem dX3_refresh_8 : decode cX3_refresh 8 = .ok (.istore_n 1, 1) := by decide +kernel
theorem dX3_refresh_9 : decode cX3_refresh 9 = .ok (.iload_n 1, 1) := by decide +kernel
theorem dX3_refresh_10 : decode cX3_refresh 10 = .ok (.iconst (-1), 1) := by decide +kernel
theorem dX3_refresh_11 : decode cX3_refresh 11 = .ok (.ixor, 1) := by decide +kernel
theorem dX3_refresh_12 : decode cX3_refresh 12 = .ok (.istore_n 2, 1) := by decide +kernel
theorem dX3_refresh_13 : decode cX3_refresh 13 = .ok (.aload_n 0, 1) := by decide +kernel
theorem dX3_refresh_14 : decode cX3_refresh 14 = .ok (.iconst 1, 1) := by decide +kernel
theorem dX3_refresh_15 : decode cX3_refresh 15 = .ok (.putfield 40, 3) := by decide +kernel
theorem dX3_refresh_18 : decode cX3_refresh 18 = .ok (.aload_n 0, 1) := by decide +kernel
theorem dX3_refresh_19 : decode cX3_refresh 19 = .ok (.iload_n 1, 1) := by decide +kernel
theorem dX3_refresh_20 : decode cX3_refresh 20 = .ok (.putfield 37, 3) := by decide +kernel
theorem dX3_refresh_23 : decode cX3_refresh 23 = .ok (.iconst 0, 1) := by decide +kernel
theorem dX3_refresh_24 : decode cX3_refresh 24 = .ok (.istore_n 3, 1) := by decide +kernel
theorem dX3_refresh_25 : decode cX3_refresh 25 = .ok (.iload_n 3, 1) := by decide +kernel
theorem dX3_refresh_26 : decode cX3_refresh 26 = .ok (.aload_n 0, 1) := by decide +kernel
theorem dX3_refresh_27 : decode cX3_refresh 27 = .ok (.getfield 34, 3) := by decide +kernel
theorem dX3_refresh_30 : decode cX3_refresh 30 = .ok (.if_icmp .ge 56, 3) := by decide +kernel
theorem dX3_refresh_33 : decode cX3_refresh 33 = .ok (.aload_n 0, 1) := by decide +kernel
theorem dX3_refresh_34 : decode cX3_refresh 34 = .ok (.iload_n 3, 1) := by decide +kernel
theorem dX3_refresh_35 : decode cX3_refresh 35 = .ok (.invokevirtual 63, 3) := by decide +kernel
theorem dX3_refresh_38 : decode cX3_refresh 38 = .ok (.iload_n 2, 1) := by decide +kernel
theorem dX3_refresh_39 : decode cX3_refresh 39 = .ok (.iand, 1) := by decide +kernel
theorem dX3_refresh_40 : decode cX3_refresh 40 = .ok (.ifCond .eq 8, 3) := by decide +kernel
theorem dX3_refresh_43 : decode cX3_refresh 43 = .ok (.aload_n 0, 1) := by decide +kernel
theorem dX3_refresh_44 : decode cX3_refresh 44 = .ok (.iconst 0, 1) := by decide +kernel
theorem dX3_refresh_45 : decode cX3_refresh 45 = .ok (.putfield 40, 3) := by decide +kernel
theorem dX3_refresh_48 : decode cX3_refresh 48 = .ok (.aload_n 0, 1) := by decide +kernel
theorem dX3_refresh_49 : decode cX3_refresh 49 = .ok (.iload_n 3, 1) := by decide +kernel
theorem dX3_refresh_50 : decode cX3_refresh 50 = .ok (.invokevirtual 63, 3) := by decide +kernel
theorem dX3_refresh_53 : decode cX3_refresh 53 = .ok (.iload_n 2, 1) := by decide +kernel
theorem dX3_refresh_54 : decode cX3_refresh 54 = .ok (.iand, 1) := by decide +kernel
theorem dX3_refresh_55 : decode cX3_refresh 55 = .ok (.ifCond .ne 11, 3) := by decide +kernel
theorem dX3_refresh_58 : decode cX3_refresh 58 = .ok (.aload_n 0, 1) := by decide +kernel
theorem dX3_refresh_59 : decode cX3_refresh 59 = .ok (.iload_n 3, 1) := by decide +kernel
theorem dX3_refresh_60 : decode cX3_refresh 60 = .ok (.invokevirtual 67, 3) := by decide +kernel
theorem dX3_refresh_63 : decode cX3_refresh 63 = .ok (.ifCond .ne 17, 3) := by decide +kernel
theorem dX3_refresh_66 : decode cX3_refresh 66 = .ok (.aload_n 0, 1) := by decide +kernel
theorem dX3_refresh_67 : decode cX3_refresh 67 = .ok (.dup, 1) := by decide +kernel
theorem dX3_refresh_68 : decode cX3_refresh 68 = .ok (.getfield 37, 3) := by decide +kernel
theorem dX3_refresh_71 : decode cX3_refresh 71 = .ok (.iconst 1, 1) := by decide +kernel
theorem dX3_refresh_72 : decode cX3_refresh 72 = .ok (.iload_n 3, 1) := by decide +kernel
theorem dX3_refresh_73 : decode cX3_refresh 73 = .ok (.ishl, 1) := by decide +kernel
theorem dX3_refresh_74 : decode cX3_refresh 74 = .ok (.iconst (-1), 1) := by decide +kernel
theorem dX3_refresh_75 : decode cX3_refresh 75 = .ok (.ixor, 1) := by decide +kernel
theorem dX3_refresh_76 : decode cX3_refresh 76 = .ok (.iand, 1) := by decide +kernel
theorem dX3_refresh_77 : decode cX3_refresh 77 = .ok (.putfield 37, 3) := by decide +kernel
theorem dX3_refresh_80 : decode cX3_refresh 80 = .ok (.iinc 3 1, 3) := by decide +kernel
theorem dX3_refresh_83 : decode cX3_refresh 83 = .ok (.goto (-58), 3) := by decide +kernel
theorem dX3_refresh_86 : decode cX3_refresh 86 = .ok (.iconst 0, 1) := by decide +kernel
theorem dX3_refresh_87 : decode cX3_refresh 87 = .ok (.istore_n 3, 1) := by decide +kernel
theorem dX3_refresh_88 : decode cX3_refresh 88 = .ok (.iload_n 3, 1) := by decide +kernel
theorem dX3_refresh_89 : decode cX3_refresh 89 = .ok (.aload_n 0, 1) := by decide +kernel
theorem dX3_refresh_90 : decode cX3_refresh 90 = .ok (.getfield 34, 3) := by decide +kernel
theorem dX3_refresh_93 : decode cX3_refresh 93 = .ok (.if_icmp .ge 58, 3) := by decide +kernel
theorem dX3_refresh_96 : decode cX3_refresh 96 = .ok (.iconst 0, 1) := by decide +kernel
theorem dX3_refresh_97 : decode cX3_refresh 97 = .ok (.istore 4, 2) := by decide +kernel
theorem dX3_refresh_99 : decode cX3_refresh 99 = .ok (.iload 4, 2) := by decide +kernel
theorem dX3_refresh_101 : decode cX3_refresh 101 = .ok (.aload_n 0, 1) := by decide +kernel
theorem dX3_refresh_102 : decode cX3_refresh 102 = .ok (.getfield 34, 3) := by decide +kernel
theorem dX3_refresh_105 : decode cX3_refresh 105 = .ok (.if_icmp .ge 40, 3) := by decide +kernel
theorem dX3_refresh_108 : decode cX3_refresh 108 = .ok (.aload_n 0, 1) := by decide +kernel
theorem dX3_refresh_109 : decode cX3_refresh 109 = .ok (.iload 4, 2) := by decide +kernel
theorem dX3_refresh_111 : decode cX3_refresh 111 = .ok (.invokevirtual 63, 3) := by decide +kernel
theorem dX3_refresh_114 : decode cX3_refresh 114 = .ok (.aload_n 0, 1) := by decide +kernel
theorem dX3_refresh_115 : decode cX3_refresh 115 = .ok (.getfield 37, 3) := by decide +kernel
theorem dX3_refresh_118 : decode cX3_refresh 118 = .ok (.iconst (-1), 1) := by decide +kernel
theorem dX3_refresh_119 : decode cX3_refresh 119 = .ok (.ixor, 1) := by decide +kernel
theorem dX3_refresh_120 : decode cX3_refresh 120 = .ok (.iand, 1) := by decide +kernel
theorem dX3_refresh_121 : decode cX3_refresh 121 = .ok (.ifCond .eq 18, 3) := by decide +kernel
theorem dX3_refresh_124 : decode cX3_refresh 124 = .ok (.aload_n 0, 1) := by decide +kernel
theorem dX3_refresh_125 : decode cX3_refresh 125 = .ok (.dup, 1) := by decide +kernel
theorem dX3_refresh_126 : decode cX3_refresh 126 = .ok (.getfield 37, 3) := by decide +kernel
theorem dX3_refresh_129 : decode cX3_refresh 129 = .ok (.iconst 1, 1) := by decide +kernel
theorem dX3_refresh_130 : decode cX3_refresh 130 = .ok (.iload 4, 2) := by decide +kernel
theorem dX3_refresh_132 : decode cX3_refresh 132 = .ok (.ishl, 1) := by decide +kernel
theorem dX3_refresh_133 : decode cX3_refresh 133 = .ok (.iconst (-1), 1) := by decide +kernel
theorem dX3_refresh_134 : decode cX3_refresh 134 = .ok (.ixor, 1) := by decide +kernel
theorem dX3_refresh_135 : decode cX3_refresh 135 = .ok (.iand, 1) := by decide +kernel
theorem dX3_refresh_136 : decode cX3_refresh 136 = .ok (.putfield 37, 3) := by decide +kernel
theorem dX3_refresh_139 : decode cX3_refresh 139 = .ok (.iinc 4 1, 3) := by decide +kernel
theorem dX3_refresh_142 : decode cX3_refresh 142 = .ok (.goto (-43), 3) := by decide +kernel
theorem dX3_refresh_145 : decode cX3_refresh 145 = .ok (.iinc 3 1, 3) := by decide +kernel
theorem dX3_refresh_148 : decode cX3_refresh 148 = .ok (.goto (-60), 3) := by decide +kernel
theorem dX3_refresh_151 : decode cX3_refresh 151 = .ok (.aload_n 0, 1) := by decide +kernel
theorem dX3_refresh_152 : decode cX3_refresh 152 = .ok (.invokevirtual 70, 3) := by decide +kernel
theorem dX3_refresh_155 : decode cX3_refresh 155 = .ok (.return_, 1) := by decide +kernel
theorem dX3_goals_0 : decode cX3_goals 0 = .ok (.iconst 0, 1) := by decide +kernel
theorem dX3_goals_1 : decode cX3_goals 1 = .ok (.istore_n 2, 1) := by decide +kernel
theorem dX3_goals_2 : decode cX3_goals 2 = .ok (.iconst 0, 1) := by decide +kernel
theorem dX3_goals_3 : decode cX3_goals 3 = .ok (.istore_n 3, 1) := by decide +kernel
theorem dX3_goals_4 : decode cX3_goals 4 = .ok (.iload_n 3, 1) := by decide +kernel
theorem dX3_goals_5 : decode cX3_goals 5 = .ok (.aload_n 0, 1) := by decide +kernel
theorem dX3_goals_6 : decode cX3_goals 6 = .ok (.getfield 31, 3) := by decide +kernel
theorem dX3_goals_9 : decode cX3_goals 9 = .ok (.if_icmp .ge 34, 3) := by decide +kernel
theorem dX3_goals_12 : decode cX3_goals 12 = .ok (.aload_n 0, 1) := by decide +kernel
theorem dX3_goals_13 : decode cX3_goals 13 = .ok (.getfield 15, 3) := by decide +kernel
theorem dX3_goals_16 : decode cX3_goals 16 = .ok (.iload_n 1, 1) := by decide +kernel
theorem dX3_goals_17 : decode cX3_goals 17 = .ok (.iconst 4, 1) := by decide +kernel
theorem dX3_goals_18 : decode cX3_goals 18 = .ok (.imul, 1) := by decide +kernel
theorem dX3_goals_19 : decode cX3_goals 19 = .ok (.iload_n 3, 1) := by decide +kernel
theorem dX3_goals_20 : decode cX3_goals 20 = .ok (.iadd, 1) := by decide +kernel
theorem dX3_goals_21 : decode cX3_goals 21 = .ok (.iaload, 1) := by decide +kernel
theorem dX3_goals_22 : decode cX3_goals 22 = .ok (.istore 4, 2) := by decide +kernel
theorem dX3_goals_24 : decode cX3_goals 24 = .ok (.iload 4, 2) := by decide +kernel
theorem dX3_goals_26 : decode cX3_goals 26 = .ok (.iconst (-1), 1) := by decide +kernel
theorem dX3_goals_27 : decode cX3_goals 27 = .ok (.if_icmp .eq 10, 3) := by decide +kernel
theorem dX3_goals_30 : decode cX3_goals 30 = .ok (.iload_n 2, 1) := by decide +kernel
theorem dX3_goals_31 : decode cX3_goals 31 = .ok (.iconst 1, 1) := by decide +kernel
theorem dX3_goals_32 : decode cX3_goals 32 = .ok (.iload 4, 2) := by decide +kernel
theorem dX3_goals_34 : decode cX3_goals 34 = .ok (.ishl, 1) := by decide +kernel
theorem dX3_goals_35 : decode cX3_goals 35 = .ok (.ior, 1) := by decide +kernel
theorem dX3_goals_36 : decode cX3_goals 36 = .ok (.istore_n 2, 1) := by decide +kernel
theorem dX3_goals_37 : decode cX3_goals 37 = .ok (.iinc 3 1, 3) := by decide +kernel
theorem dX3_goals_40 : decode cX3_goals 40 = .ok (.goto (-36), 3) := by decide +kernel
theorem dX3_goals_43 : decode cX3_goals 43 = .ok (.iload_n 2, 1) := by decide +kernel
theorem dX3_goals_44 : decode cX3_goals 44 = .ok (.ireturn, 1) := by decide +kernel
theorem dX3_writesUnlike_0 : decode cX3_writesUnlike 0 = .ok (.iconst 0, 1) := by decide +kernel
theorem dX3_writesUnlike_1 : decode cX3_writesUnlike 1 = .ok (.istore_n 2, 1) := by decide +kernel
theorem dX3_writesUnlike_2 : decode cX3_writesUnlike 2 = .ok (.iconst 0, 1) := by decide +kernel
theorem dX3_writesUnlike_3 : decode cX3_writesUnlike 3 = .ok (.istore_n 3, 1) := by decide +kernel
theorem dX3_writesUnlike_4 : decode cX3_writesUnlike 4 = .ok (.iload_n 3, 1) := by decide +kernel
theorem dX3_writesUnlike_5 : decode cX3_writesUnlike 5 = .ok (.aload_n 0, 1) := by decide +kernel
theorem dX3_writesUnlike_6 : decode cX3_writesUnlike 6 = .ok (.getfield 31, 3) := by decide +kernel
theorem dX3_writesUnlike_9 : decode cX3_writesUnlike 9 = .ok (.if_icmp .ge 24, 3) := by decide +kernel
theorem dX3_writesUnlike_12 : decode cX3_writesUnlike 12 = .ok (.iload_n 2, 1) := by decide +kernel
theorem dX3_writesUnlike_13 : decode cX3_writesUnlike 13 = .ok (.iconst 1, 1) := by decide +kernel
theorem dX3_writesUnlike_14 : decode cX3_writesUnlike 14 = .ok (.aload_n 0, 1) := by decide +kernel
theorem dX3_writesUnlike_15 : decode cX3_writesUnlike 15 = .ok (.getfield 9, 3) := by decide +kernel
theorem dX3_writesUnlike_18 : decode cX3_writesUnlike 18 = .ok (.iload_n 1, 1) := by decide +kernel
theorem dX3_writesUnlike_19 : decode cX3_writesUnlike 19 = .ok (.iconst 4, 1) := by decide +kernel
theorem dX3_writesUnlike_20 : decode cX3_writesUnlike 20 = .ok (.imul, 1) := by decide +kernel
theorem dX3_writesUnlike_21 : decode cX3_writesUnlike 21 = .ok (.iload_n 3, 1) := by decide +kernel
theorem dX3_writesUnlike_22 : decode cX3_writesUnlike 22 = .ok (.iadd, 1) := by decide +kernel
theorem dX3_writesUnlike_23 : decode cX3_writesUnlike 23 = .ok (.iaload, 1) := by decide +kernel
theorem dX3_writesUnlike_24 : decode cX3_writesUnlike 24 = .ok (.ishl, 1) := by decide +kernel
theorem dX3_writesUnlike_25 : decode cX3_writesUnlike 25 = .ok (.ior, 1) := by decide +kernel
theorem dX3_writesUnlike_26 : decode cX3_writesUnlike 26 = .ok (.istore_n 2, 1) := by decide +kernel
theorem dX3_writesUnlike_27 : decode cX3_writesUnlike 27 = .ok (.iinc 3 1, 3) := by decide +kernel
theorem dX3_writesUnlike_30 : decode cX3_writesUnlike 30 = .ok (.goto (-26), 3) := by decide +kernel
theorem dX3_writesUnlike_33 : decode cX3_writesUnlike 33 = .ok (.iload_n 2, 1) := by decide +kernel
theorem dX3_writesUnlike_34 : decode cX3_writesUnlike 34 = .ok (.iconst 1, 1) := by decide +kernel
theorem dX3_writesUnlike_35 : decode cX3_writesUnlike 35 = .ok (.aload_n 0, 1) := by decide +kernel
theorem dX3_writesUnlike_36 : decode cX3_writesUnlike 36 = .ok (.getfield 31, 3) := by decide +kernel
theorem dX3_writesUnlike_39 : decode cX3_writesUnlike 39 = .ok (.ishl, 1) := by decide +kernel
theorem dX3_writesUnlike_40 : decode cX3_writesUnlike 40 = .ok (.iconst 1, 1) := by decide +kernel
theorem dX3_writesUnlike_41 : decode cX3_writesUnlike 41 = .ok (.isub, 1) := by decide +kernel
theorem dX3_writesUnlike_42 : decode cX3_writesUnlike 42 = .ok (.if_icmp .ne 7, 3) := by decide +kernel
theorem dX3_writesUnlike_45 : decode cX3_writesUnlike 45 = .ok (.iconst 1, 1) := by decide +kernel
theorem dX3_writesUnlike_46 : decode cX3_writesUnlike 46 = .ok (.goto 4, 3) := by decide +kernel
theorem dX3_writesUnlike_49 : decode cX3_writesUnlike 49 = .ok (.iconst 0, 1) := by decide +kernel
theorem dX3_writesUnlike_50 : decode cX3_writesUnlike 50 = .ok (.ireturn, 1) := by decide +kernel
theorem dX3_listMarks_0 : decode cX3_listMarks 0 = .ok (.aload_n 0, 1) := by decide +kernel
theorem dX3_listMarks_1 : decode cX3_listMarks 1 = .ok (.iconst 0, 1) := by decide +kernel
theorem dX3_listMarks_2 : decode cX3_listMarks 2 = .ok (.putfield 27, 3) := by decide +kernel
theorem dX3_listMarks_5 : decode cX3_listMarks 5 = .ok (.iconst 0, 1) := by decide +kernel
theorem dX3_listMarks_6 : decode cX3_listMarks 6 = .ok (.istore_n 1, 1) := by decide +kernel
theorem dX3_listMarks_7 : decode cX3_listMarks 7 = .ok (.iload_n 1, 1) := by decide +kernel
theorem dX3_listMarks_8 : decode cX3_listMarks 8 = .ok (.aload_n 0, 1) := by decide +kernel
theorem dX3_listMarks_9 : decode cX3_listMarks 9 = .ok (.getfield 34, 3) := by decide +kernel
theorem dX3_listMarks_12 : decode cX3_listMarks 12 = .ok (.if_icmp .ge 79, 3) := by decide +kernel
theorem dX3_listMarks_15 : decode cX3_listMarks 15 = .ok (.aload_n 0, 1) := by decide +kernel
theorem dX3_listMarks_16 : decode cX3_listMarks 16 = .ok (.getfield 24, 3) := by decide +kernel
theorem dX3_listMarks_19 : decode cX3_listMarks 19 = .ok (.aload_n 0, 1) := by decide +kernel
theorem dX3_listMarks_20 : decode cX3_listMarks 20 = .ok (.dup, 1) := by decide +kernel
theorem dX3_listMarks_21 : decode cX3_listMarks 21 = .ok (.getfield 27, 3) := by decide +kernel
theorem dX3_listMarks_24 : decode cX3_listMarks 24 = .ok (.dup_x1, 1) := by decide +kernel
theorem dX3_listMarks_25 : decode cX3_listMarks 25 = .ok (.iconst 1, 1) := by decide +kernel
theorem dX3_listMarks_26 : decode cX3_listMarks 26 = .ok (.iadd, 1) := by decide +kernel
theorem dX3_listMarks_27 : decode cX3_listMarks 27 = .ok (.putfield 27, 3) := by decide +kernel
theorem dX3_listMarks_30 : decode cX3_listMarks 30 = .ok (.iconst 2, 1) := by decide +kernel
theorem dX3_listMarks_31 : decode cX3_listMarks 31 = .ok (.iload_n 1, 1) := by decide +kernel
theorem dX3_listMarks_32 : decode cX3_listMarks 32 = .ok (.imul, 1) := by decide +kernel
theorem dX3_listMarks_33 : decode cX3_listMarks 33 = .ok (.iastore, 1) := by decide +kernel
theorem dX3_listMarks_34 : decode cX3_listMarks 34 = .ok (.aload_n 0, 1) := by decide +kernel
theorem dX3_listMarks_35 : decode cX3_listMarks 35 = .ok (.iload_n 1, 1) := by decide +kernel
theorem dX3_listMarks_36 : decode cX3_listMarks 36 = .ok (.invokevirtual 73, 3) := by decide +kernel
theorem dX3_listMarks_39 : decode cX3_listMarks 39 = .ok (.ifCond .eq 24, 3) := by decide +kernel
theorem dX3_listMarks_42 : decode cX3_listMarks 42 = .ok (.aload_n 0, 1) := by decide +kernel
theorem dX3_listMarks_43 : decode cX3_listMarks 43 = .ok (.getfield 24, 3) := by decide +kernel
theorem dX3_listMarks_46 : decode cX3_listMarks 46 = .ok (.aload_n 0, 1) := by decide +kernel
theorem dX3_listMarks_47 : decode cX3_listMarks 47 = .ok (.dup, 1) := by decide +kernel
theorem dX3_listMarks_48 : decode cX3_listMarks 48 = .ok (.getfield 27, 3) := by decide +kernel
theorem dX3_listMarks_51 : decode cX3_listMarks 51 = .ok (.dup_x1, 1) := by decide +kernel
theorem dX3_listMarks_52 : decode cX3_listMarks 52 = .ok (.iconst 1, 1) := by decide +kernel
theorem dX3_listMarks_53 : decode cX3_listMarks 53 = .ok (.iadd, 1) := by decide +kernel
theorem dX3_listMarks_54 : decode cX3_listMarks 54 = .ok (.putfield 27, 3) := by decide +kernel
theorem dX3_listMarks_57 : decode cX3_listMarks 57 = .ok (.iconst 2, 1) := by decide +kernel
theorem dX3_listMarks_58 : decode cX3_listMarks 58 = .ok (.iload_n 1, 1) := by decide +kernel
theorem dX3_listMarks_59 : decode cX3_listMarks 59 = .ok (.imul, 1) := by decide +kernel
theorem dX3_listMarks_60 : decode cX3_listMarks 60 = .ok (.iconst 1, 1) := by decide +kernel
theorem dX3_listMarks_61 : decode cX3_listMarks 61 = .ok (.iadd, 1) := by decide +kernel
theorem dX3_listMarks_62 : decode cX3_listMarks 62 = .ok (.iastore, 1) := by decide +kernel
theorem dX3_listMarks_63 : decode cX3_listMarks 63 = .ok (.iconst 0, 1) := by decide +kernel
theorem dX3_listMarks_64 : decode cX3_listMarks 64 = .ok (.istore_n 2, 1) := by decide +kernel
theorem dX3_listMarks_65 : decode cX3_listMarks 65 = .ok (.iload_n 2, 1) := by decide +kernel
theorem dX3_listMarks_66 : decode cX3_listMarks 66 = .ok (.aload_n 0, 1) := by decide +kernel
theorem dX3_listMarks_67 : decode cX3_listMarks 67 = .ok (.getfield 31, 3) := by decide +kernel
theorem dX3_listMarks_70 : decode cX3_listMarks 70 = .ok (.if_icmp .ge 15, 3) := by decide +kernel
theorem dX3_listMarks_73 : decode cX3_listMarks 73 = .ok (.aload_n 0, 1) := by decide +kernel
theorem dX3_listMarks_74 : decode cX3_listMarks 74 = .ok (.iload_n 1, 1) := by decide +kernel
theorem dX3_listMarks_75 : decode cX3_listMarks 75 = .ok (.iload_n 2, 1) := by decide +kernel
theorem dX3_listMarks_76 : decode cX3_listMarks 76 = .ok (.invokevirtual 76, 3) := by decide +kernel
theorem dX3_listMarks_79 : decode cX3_listMarks 79 = .ok (.iinc 2 1, 3) := by decide +kernel
theorem dX3_listMarks_82 : decode cX3_listMarks 82 = .ok (.goto (-17), 3) := by decide +kernel
theorem dX3_listMarks_85 : decode cX3_listMarks 85 = .ok (.iinc 1 1, 3) := by decide +kernel
theorem dX3_listMarks_88 : decode cX3_listMarks 88 = .ok (.goto (-81), 3) := by decide +kernel
theorem dX3_listMarks_91 : decode cX3_listMarks 91 = .ok (.return_, 1) := by decide +kernel
theorem dX3_wireMarks_0 : decode cX3_wireMarks 0 = .ok (.aload_n 0, 1) := by decide +kernel
theorem dX3_wireMarks_1 : decode cX3_wireMarks 1 = .ok (.getfield 9, 3) := by decide +kernel
theorem dX3_wireMarks_4 : decode cX3_wireMarks 4 = .ok (.iload_n 1, 1) := by decide +kernel
theorem dX3_wireMarks_5 : decode cX3_wireMarks 5 = .ok (.iconst 4, 1) := by decide +kernel
theorem dX3_wireMarks_6 : decode cX3_wireMarks 6 = .ok (.imul, 1) := by decide +kernel
theorem dX3_wireMarks_7 : decode cX3_wireMarks 7 = .ok (.iload_n 2, 1) := by decide +kernel
theorem dX3_wireMarks_8 : decode cX3_wireMarks 8 = .ok (.iadd, 1) := by decide +kernel
theorem dX3_wireMarks_9 : decode cX3_wireMarks 9 = .ok (.iaload, 1) := by decide +kernel
theorem dX3_wireMarks_10 : decode cX3_wireMarks 10 = .ok (.istore_n 3, 1) := by decide +kernel
theorem dX3_wireMarks_11 : decode cX3_wireMarks 11 = .ok (.aload_n 0, 1) := by decide +kernel
theorem dX3_wireMarks_12 : decode cX3_wireMarks 12 = .ok (.getfield 15, 3) := by decide +kernel
theorem dX3_wireMarks_15 : decode cX3_wireMarks 15 = .ok (.iload_n 1, 1) := by decide +kernel
theorem dX3_wireMarks_16 : decode cX3_wireMarks 16 = .ok (.iconst 4, 1) := by decide +kernel
theorem dX3_wireMarks_17 : decode cX3_wireMarks 17 = .ok (.imul, 1) := by decide +kernel
theorem dX3_wireMarks_18 : decode cX3_wireMarks 18 = .ok (.iload_n 2, 1) := by decide +kernel
theorem dX3_wireMarks_19 : decode cX3_wireMarks 19 = .ok (.iadd, 1) := by decide +kernel
theorem dX3_wireMarks_20 : decode cX3_wireMarks 20 = .ok (.iaload, 1) := by decide +kernel
theorem dX3_wireMarks_21 : decode cX3_wireMarks 21 = .ok (.istore 4, 2) := by decide +kernel
theorem dX3_wireMarks_23 : decode cX3_wireMarks 23 = .ok (.iconst 2, 1) := by decide +kernel
theorem dX3_wireMarks_24 : decode cX3_wireMarks 24 = .ok (.iload_n 1, 1) := by decide +kernel
theorem dX3_wireMarks_25 : decode cX3_wireMarks 25 = .ok (.imul, 1) := by decide +kernel
theorem dX3_wireMarks_26 : decode cX3_wireMarks 26 = .ok (.iconst 4, 1) := by decide +kernel
theorem dX3_wireMarks_27 : decode cX3_wireMarks 27 = .ok (.imul, 1) := by decide +kernel
theorem dX3_wireMarks_28 : decode cX3_wireMarks 28 = .ok (.iload_n 2, 1) := by decide +kernel
theorem dX3_wireMarks_29 : decode cX3_wireMarks 29 = .ok (.iadd, 1) := by decide +kernel
theorem dX3_wireMarks_30 : decode cX3_wireMarks 30 = .ok (.istore 5, 2) := by decide +kernel
theorem dX3_wireMarks_32 : decode cX3_wireMarks 32 = .ok (.aload_n 0, 1) := by decide +kernel
theorem dX3_wireMarks_33 : decode cX3_wireMarks 33 = .ok (.getfield 18, 3) := by decide +kernel
theorem dX3_wireMarks_36 : decode cX3_wireMarks 36 = .ok (.iload 5, 2) := by decide +kernel
theorem dX3_wireMarks_38 : decode cX3_wireMarks 38 = .ok (.iload_n 3, 1) := by decide +kernel
theorem dX3_wireMarks_39 : decode cX3_wireMarks 39 = .ok (.iastore, 1) := by decide +kernel
theorem dX3_wireMarks_40 : decode cX3_wireMarks 40 = .ok (.aload_n 0, 1) := by decide +kernel
theorem dX3_wireMarks_41 : decode cX3_wireMarks 41 = .ok (.getfield 21, 3) := by decide +kernel
theorem dX3_wireMarks_44 : decode cX3_wireMarks 44 = .ok (.iload 5, 2) := by decide +kernel
theorem dX3_wireMarks_46 : decode cX3_wireMarks 46 = .ok (.iload 4, 2) := by decide +kernel
theorem dX3_wireMarks_48 : decode cX3_wireMarks 48 = .ok (.iconst (-1), 1) := by decide +kernel
theorem dX3_wireMarks_49 : decode cX3_wireMarks 49 = .ok (.if_icmp .ne 7, 3) := by decide +kernel
theorem dX3_wireMarks_52 : decode cX3_wireMarks 52 = .ok (.iconst (-1), 1) := by decide +kernel
theorem dX3_wireMarks_53 : decode cX3_wireMarks 53 = .ok (.goto 7, 3) := by decide +kernel
theorem dX3_wireMarks_56 : decode cX3_wireMarks 56 = .ok (.iconst 2, 1) := by decide +kernel
theorem dX3_wireMarks_57 : decode cX3_wireMarks 57 = .ok (.iload 4, 2) := by decide +kernel
theorem dX3_wireMarks_59 : decode cX3_wireMarks 59 = .ok (.imul, 1) := by decide +kernel
theorem dX3_wireMarks_60 : decode cX3_wireMarks 60 = .ok (.iastore, 1) := by decide +kernel
theorem dX3_wireMarks_61 : decode cX3_wireMarks 61 = .ok (.aload_n 0, 1) := by decide +kernel
theorem dX3_wireMarks_62 : decode cX3_wireMarks 62 = .ok (.iload_n 1, 1) := by decide +kernel
theorem dX3_wireMarks_63 : decode cX3_wireMarks 63 = .ok (.invokevirtual 73, 3) := by decide +kernel
theorem dX3_wireMarks_66 : decode cX3_wireMarks 66 = .ok (.ifCond .eq 45, 3) := by decide +kernel
theorem dX3_wireMarks_69 : decode cX3_wireMarks 69 = .ok (.iconst 2, 1) := by decide +kernel
theorem dX3_wireMarks_70 : decode cX3_wireMarks 70 = .ok (.iload_n 1, 1) := by decide +kernel
theorem dX3_wireMarks_71 : decode cX3_wireMarks 71 = .ok (.imul, 1) := by decide +kernel
theorem dX3_wireMarks_72 : decode cX3_wireMarks 72 = .ok (.iconst 1, 1) := by decide +kernel
theorem dX3_wireMarks_73 : decode cX3_wireMarks 73 = .ok (.iadd, 1) := by decide +kernel
theorem dX3_wireMarks_74 : decode cX3_wireMarks 74 = .ok (.iconst 4, 1) := by decide +kernel
theorem dX3_wireMarks_75 : decode cX3_wireMarks 75 = .ok (.imul, 1) := by decide +kernel
theorem dX3_wireMarks_76 : decode cX3_wireMarks 76 = .ok (.iload_n 3, 1) := by decide +kernel
theorem dX3_wireMarks_77 : decode cX3_wireMarks 77 = .ok (.iadd, 1) := by decide +kernel
theorem dX3_wireMarks_78 : decode cX3_wireMarks 78 = .ok (.istore 6, 2) := by decide +kernel
theorem dX3_wireMarks_80 : decode cX3_wireMarks 80 = .ok (.aload_n 0, 1) := by decide +kernel
theorem dX3_wireMarks_81 : decode cX3_wireMarks 81 = .ok (.getfield 18, 3) := by decide +kernel
theorem dX3_wireMarks_84 : decode cX3_wireMarks 84 = .ok (.iload 6, 2) := by decide +kernel
theorem dX3_wireMarks_86 : decode cX3_wireMarks 86 = .ok (.iload_n 2, 1) := by decide +kernel
theorem dX3_wireMarks_87 : decode cX3_wireMarks 87 = .ok (.iastore, 1) := by decide +kernel
theorem dX3_wireMarks_88 : decode cX3_wireMarks 88 = .ok (.aload_n 0, 1) := by decide +kernel
theorem dX3_wireMarks_89 : decode cX3_wireMarks 89 = .ok (.getfield 21, 3) := by decide +kernel
theorem dX3_wireMarks_92 : decode cX3_wireMarks 92 = .ok (.iload 6, 2) := by decide +kernel
theorem dX3_wireMarks_94 : decode cX3_wireMarks 94 = .ok (.iload 4, 2) := by decide +kernel
theorem dX3_wireMarks_96 : decode cX3_wireMarks 96 = .ok (.iconst (-1), 1) := by decide +kernel
theorem dX3_wireMarks_97 : decode cX3_wireMarks 97 = .ok (.if_icmp .ne 7, 3) := by decide +kernel
theorem dX3_wireMarks_100 : decode cX3_wireMarks 100 = .ok (.iconst (-1), 1) := by decide +kernel
theorem dX3_wireMarks_101 : decode cX3_wireMarks 101 = .ok (.goto 9, 3) := by decide +kernel
theorem dX3_wireMarks_104 : decode cX3_wireMarks 104 = .ok (.iconst 2, 1) := by decide +kernel
theorem dX3_wireMarks_105 : decode cX3_wireMarks 105 = .ok (.iload 4, 2) := by decide +kernel
theorem dX3_wireMarks_107 : decode cX3_wireMarks 107 = .ok (.imul, 1) := by decide +kernel
theorem dX3_wireMarks_108 : decode cX3_wireMarks 108 = .ok (.iconst 1, 1) := by decide +kernel
theorem dX3_wireMarks_109 : decode cX3_wireMarks 109 = .ok (.iadd, 1) := by decide +kernel
theorem dX3_wireMarks_110 : decode cX3_wireMarks 110 = .ok (.iastore, 1) := by decide +kernel
theorem dX3_wireMarks_111 : decode cX3_wireMarks 111 = .ok (.return_, 1) := by decide +kernel
theorem dX3_rowLength_0 : decode cX3_rowLength 0 = .ok (.iconst 0, 1) := by decide +kernel
theorem dX3_rowLength_1 : decode cX3_rowLength 1 = .ok (.istore_n 2, 1) := by decide +kernel
theorem dX3_rowLength_2 : decode cX3_rowLength 2 = .ok (.iload_n 2, 1) := by decide +kernel
theorem dX3_rowLength_3 : decode cX3_rowLength 3 = .ok (.bipush 10, 2) := by decide +kernel
theorem dX3_rowLength_5 : decode cX3_rowLength 5 = .ok (.if_icmp .gt 33, 3) := by decide +kernel
theorem dX3_rowLength_8 : decode cX3_rowLength 8 = .ok (.iload_n 1, 1) := by decide +kernel
theorem dX3_rowLength_9 : decode cX3_rowLength 9 = .ok (.iconst 2, 1) := by decide +kernel
theorem dX3_rowLength_10 : decode cX3_rowLength 10 = .ok (.iload_n 2, 1) := by decide +kernel
theorem dX3_rowLength_11 : decode cX3_rowLength 11 = .ok (.imul, 1) := by decide +kernel
theorem dX3_rowLength_12 : decode cX3_rowLength 12 = .ok (.ishr, 1) := by decide +kernel
theorem dX3_rowLength_13 : decode cX3_rowLength 13 = .ok (.iconst 1, 1) := by decide +kernel
theorem dX3_rowLength_14 : decode cX3_rowLength 14 = .ok (.if_icmp .ne 18, 3) := by decide +kernel
theorem dX3_rowLength_17 : decode cX3_rowLength 17 = .ok (.aload_n 0, 1) := by decide +kernel
theorem dX3_rowLength_18 : decode cX3_rowLength 18 = .ok (.iload_n 1, 1) := by decide +kernel
theorem dX3_rowLength_19 : decode cX3_rowLength 19 = .ok (.iload_n 2, 1) := by decide +kernel
theorem dX3_rowLength_20 : decode cX3_rowLength 20 = .ok (.invokevirtual 80, 3) := by decide +kernel
theorem dX3_rowLength_23 : decode cX3_rowLength 23 = .ok (.ifCond .eq 7, 3) := by decide +kernel
theorem dX3_rowLength_26 : decode cX3_rowLength 26 = .ok (.iload_n 2, 1) := by decide +kernel
theorem dX3_rowLength_27 : decode cX3_rowLength 27 = .ok (.goto 4, 3) := by decide +kernel
theorem dX3_rowLength_30 : decode cX3_rowLength 30 = .ok (.iconst (-1), 1) := by decide +kernel
theorem dX3_rowLength_31 : decode cX3_rowLength 31 = .ok (.ireturn, 1) := by decide +kernel
theorem dX3_rowLength_32 : decode cX3_rowLength 32 = .ok (.iinc 2 1, 3) := by decide +kernel
theorem dX3_rowLength_35 : decode cX3_rowLength 35 = .ok (.goto (-33), 3) := by decide +kernel
theorem dX3_rowLength_38 : decode cX3_rowLength 38 = .ok (.iconst (-1), 1) := by decide +kernel
theorem dX3_rowLength_39 : decode cX3_rowLength 39 = .ok (.ireturn, 1) := by decide +kernel
theorem dX3_hasLetters_0 : decode cX3_hasLetters 0 = .ok (.iconst 0, 1) := by decide +kernel
theorem dX3_hasLetters_1 : decode cX3_hasLetters 1 = .ok (.istore_n 3, 1) := by decide +kernel
theorem dX3_hasLetters_2 : decode cX3_hasLetters 2 = .ok (.iload_n 3, 1) := by decide +kernel
theorem dX3_hasLetters_3 : decode cX3_hasLetters 3 = .ok (.iload_n 2, 1) := by decide +kernel
theorem dX3_hasLetters_4 : decode cX3_hasLetters 4 = .ok (.if_icmp .ge 25, 3) := by decide +kernel
theorem dX3_hasLetters_7 : decode cX3_hasLetters 7 = .ok (.iload_n 1, 1) := by decide +kernel
theorem dX3_hasLetters_8 : decode cX3_hasLetters 8 = .ok (.iconst 2, 1) := by decide +kernel
theorem dX3_hasLetters_9 : decode cX3_hasLetters 9 = .ok (.iload_n 3, 1) := by decide +kernel
theorem dX3_hasLetters_10 : decode cX3_hasLetters 10 = .ok (.imul, 1) := by decide +kernel
theorem dX3_hasLetters_11 : decode cX3_hasLetters 11 = .ok (.ishr, 1) := by decide +kernel
theorem dX3_hasLetters_12 : decode cX3_hasLetters 12 = .ok (.iconst 3, 1) := by decide +kernel
theorem dX3_hasLetters_13 : decode cX3_hasLetters 13 = .ok (.iand, 1) := by decide +kernel
theorem dX3_hasLetters_14 : decode cX3_hasLetters 14 = .ok (.aload_n 0, 1) := by decide +kernel
theorem dX3_hasLetters_15 : decode cX3_hasLetters 15 = .ok (.getfield 31, 3) := by decide +kernel
theorem dX3_hasLetters_18 : decode cX3_hasLetters 18 = .ok (.if_icmp .lt 5, 3) := by decide +kernel
theorem dX3_hasLetters_21 : decode cX3_hasLetters 21 = .ok (.iconst 0, 1) := by decide +kernel
theorem dX3_hasLetters_22 : decode cX3_hasLetters 22 = .ok (.ireturn, 1) := by decide +kernel
theorem dX3_hasLetters_23 : decode cX3_hasLetters 23 = .ok (.iinc 3 1, 3) := by decide +kernel
theorem dX3_hasLetters_26 : decode cX3_hasLetters 26 = .ok (.goto (-24), 3) := by decide +kernel
theorem dX3_hasLetters_29 : decode cX3_hasLetters 29 = .ok (.iconst 1, 1) := by decide +kernel
theorem dX3_hasLetters_30 : decode cX3_hasLetters 30 = .ok (.ireturn, 1) := by decide +kernel
theorem dX3_rowIndex_0 : decode cX3_rowIndex 0 = .ok (.iconst 0, 1) := by decide +kernel
theorem dX3_rowIndex_1 : decode cX3_rowIndex 1 = .ok (.istore_n 3, 1) := by decide +kernel
theorem dX3_rowIndex_2 : decode cX3_rowIndex 2 = .ok (.iload_n 2, 1) := by decide +kernel
theorem dX3_rowIndex_3 : decode cX3_rowIndex 3 = .ok (.iconst 1, 1) := by decide +kernel
theorem dX3_rowIndex_4 : decode cX3_rowIndex 4 = .ok (.isub, 1) := by decide +kernel
theorem dX3_rowIndex_5 : decode cX3_rowIndex 5 = .ok (.istore 4, 2) := by decide +kernel
theorem dX3_rowIndex_7 : decode cX3_rowIndex 7 = .ok (.iload 4, 2) := by decide +kernel
theorem dX3_rowIndex_9 : decode cX3_rowIndex 9 = .ok (.ifCond .lt 25, 3) := by decide +kernel
theorem dX3_rowIndex_12 : decode cX3_rowIndex 12 = .ok (.iload_n 3, 1) := by decide +kernel
theorem dX3_rowIndex_13 : decode cX3_rowIndex 13 = .ok (.aload_n 0, 1) := by decide +kernel
theorem dX3_rowIndex_14 : decode cX3_rowIndex 14 = .ok (.getfield 31, 3) := by decide +kernel
theorem dX3_rowIndex_17 : decode cX3_rowIndex 17 = .ok (.imul, 1) := by decide +kernel
theorem dX3_rowIndex_18 : decode cX3_rowIndex 18 = .ok (.iload_n 1, 1) := by decide +kernel
theorem dX3_rowIndex_19 : decode cX3_rowIndex 19 = .ok (.iconst 2, 1) := by decide +kernel
theorem dX3_rowIndex_20 : decode cX3_rowIndex 20 = .ok (.iload 4, 2) := by decide +kernel
theorem dX3_rowIndex_22 : decode cX3_rowIndex 22 = .ok (.imul, 1) := by decide +kernel
theorem dX3_rowIndex_23 : decode cX3_rowIndex 23 = .ok (.ishr, 1) := by decide +kernel
theorem dX3_rowIndex_24 : decode cX3_rowIndex 24 = .ok (.iconst 3, 1) := by decide +kernel
theorem dX3_rowIndex_25 : decode cX3_rowIndex 25 = .ok (.iand, 1) := by decide +kernel
theorem dX3_rowIndex_26 : decode cX3_rowIndex 26 = .ok (.iadd, 1) := by decide +kernel
theorem dX3_rowIndex_27 : decode cX3_rowIndex 27 = .ok (.istore_n 3, 1) := by decide +kernel
theorem dX3_rowIndex_28 : decode cX3_rowIndex 28 = .ok (.iinc 4 (-1), 3) := by decide +kernel
theorem dX3_rowIndex_31 : decode cX3_rowIndex 31 = .ok (.goto (-24), 3) := by decide +kernel
theorem dX3_rowIndex_34 : decode cX3_rowIndex 34 = .ok (.iload_n 3, 1) := by decide +kernel
theorem dX3_rowIndex_35 : decode cX3_rowIndex 35 = .ok (.ireturn, 1) := by decide +kernel
theorem dX3_power_0 : decode cX3_power 0 = .ok (.iload_n 1, 1) := by decide +kernel
theorem dX3_power_1 : decode cX3_power 1 = .ok (.ifCond .ge 5, 3) := by decide +kernel
theorem dX3_power_4 : decode cX3_power 4 = .ok (.iconst 0, 1) := by decide +kernel
theorem dX3_power_5 : decode cX3_power 5 = .ok (.ireturn, 1) := by decide +kernel
theorem dX3_power_6 : decode cX3_power 6 = .ok (.iconst 1, 1) := by decide +kernel
theorem dX3_power_7 : decode cX3_power 7 = .ok (.istore_n 3, 1) := by decide +kernel
theorem dX3_power_8 : decode cX3_power 8 = .ok (.iconst 0, 1) := by decide +kernel
theorem dX3_power_9 : decode cX3_power 9 = .ok (.istore 4, 2) := by decide +kernel
theorem dX3_power_11 : decode cX3_power 11 = .ok (.iload 4, 2) := by decide +kernel
theorem dX3_power_13 : decode cX3_power 13 = .ok (.iload_n 1, 1) := by decide +kernel
theorem dX3_power_14 : decode cX3_power 14 = .ok (.if_icmp .ge 23, 3) := by decide +kernel
theorem dX3_power_17 : decode cX3_power 17 = .ok (.iload_n 3, 1) := by decide +kernel
theorem dX3_power_18 : decode cX3_power 18 = .ok (.aload_n 0, 1) := by decide +kernel
theorem dX3_power_19 : decode cX3_power 19 = .ok (.getfield 31, 3) := by decide +kernel
theorem dX3_power_22 : decode cX3_power 22 = .ok (.imul, 1) := by decide +kernel
theorem dX3_power_23 : decode cX3_power 23 = .ok (.istore_n 3, 1) := by decide +kernel
theorem dX3_power_24 : decode cX3_power 24 = .ok (.iload_n 3, 1) := by decide +kernel
theorem dX3_power_25 : decode cX3_power 25 = .ok (.iload_n 2, 1) := by decide +kernel
theorem dX3_power_26 : decode cX3_power 26 = .ok (.if_icmp .le 5, 3) := by decide +kernel
theorem dX3_power_29 : decode cX3_power 29 = .ok (.iconst 0, 1) := by decide +kernel
theorem dX3_power_30 : decode cX3_power 30 = .ok (.ireturn, 1) := by decide +kernel
theorem dX3_power_31 : decode cX3_power 31 = .ok (.iinc 4 1, 3) := by decide +kernel
theorem dX3_power_34 : decode cX3_power 34 = .ok (.goto (-23), 3) := by decide +kernel
theorem dX3_power_37 : decode cX3_power 37 = .ok (.iload_n 3, 1) := by decide +kernel
theorem dX3_power_38 : decode cX3_power 38 = .ok (.ireturn, 1) := by decide +kernel
theorem dJ7_fill_53178_0 : decode cJ7_fill_53178 0 = .ok (.iconst 0, 1) := by decide +kernel
theorem dJ7_fill_53178_1 : decode cJ7_fill_53178 1 = .ok (.istore_n 2, 1) := by decide +kernel
theorem dJ7_fill_53178_2 : decode cJ7_fill_53178 2 = .ok (.aload_n 0, 1) := by decide +kernel
theorem dJ7_fill_53178_3 : decode cJ7_fill_53178 3 = .ok (.arraylength, 1) := by decide +kernel
theorem dJ7_fill_53178_4 : decode cJ7_fill_53178 4 = .ok (.istore_n 3, 1) := by decide +kernel
theorem dJ7_fill_53178_5 : decode cJ7_fill_53178 5 = .ok (.iload_n 2, 1) := by decide +kernel
theorem dJ7_fill_53178_6 : decode cJ7_fill_53178 6 = .ok (.iload_n 3, 1) := by decide +kernel
theorem dJ7_fill_53178_7 : decode cJ7_fill_53178 7 = .ok (.if_icmp .ge 13, 3) := by decide +kernel
theorem dJ7_fill_53178_10 : decode cJ7_fill_53178 10 = .ok (.aload_n 0, 1) := by decide +kernel
theorem dJ7_fill_53178_11 : decode cJ7_fill_53178 11 = .ok (.iload_n 2, 1) := by decide +kernel
theorem dJ7_fill_53178_12 : decode cJ7_fill_53178 12 = .ok (.iload_n 1, 1) := by decide +kernel
theorem dJ7_fill_53178_13 : decode cJ7_fill_53178 13 = .ok (.iastore, 1) := by decide +kernel
theorem dJ7_fill_53178_14 : decode cJ7_fill_53178 14 = .ok (.iinc 2 1, 3) := by decide +kernel
theorem dJ7_fill_53178_17 : decode cJ7_fill_53178 17 = .ok (.goto (-12), 3) := by decide +kernel
theorem dJ7_fill_53178_20 : decode cJ7_fill_53178 20 = .ok (.return_, 1) := by decide +kernel
theorem dJ9_max_7cf53_0 : decode cJ9_max_7cf53 0 = .ok (.iload_n 0, 1) := by decide +kernel
theorem dJ9_max_7cf53_1 : decode cJ9_max_7cf53 1 = .ok (.iload_n 1, 1) := by decide +kernel
theorem dJ9_max_7cf53_2 : decode cJ9_max_7cf53 2 = .ok (.if_icmp .lt 7, 3) := by decide +kernel
theorem dJ9_max_7cf53_5 : decode cJ9_max_7cf53 5 = .ok (.iload_n 0, 1) := by decide +kernel
theorem dJ9_max_7cf53_6 : decode cJ9_max_7cf53 6 = .ok (.goto 4, 3) := by decide +kernel
theorem dJ9_max_7cf53_9 : decode cJ9_max_7cf53 9 = .ok (.iload_n 1, 1) := by decide +kernel
theorem dJ9_max_7cf53_10 : decode cJ9_max_7cf53 10 = .ok (.ireturn, 1) := by decide +kernel
theorem dJ9_max_f86c9_0 : decode cJ9_max_f86c9 0 = .ok (.lload_n 0, 1) := by decide +kernel
theorem dJ9_max_f86c9_1 : decode cJ9_max_f86c9 1 = .ok (.lload_n 2, 1) := by decide +kernel
theorem dJ9_max_f86c9_2 : decode cJ9_max_f86c9 2 = .ok (.lcmp, 1) := by decide +kernel
theorem dJ9_max_f86c9_3 : decode cJ9_max_f86c9 3 = .ok (.ifCond .lt 7, 3) := by decide +kernel
theorem dJ9_max_f86c9_6 : decode cJ9_max_f86c9 6 = .ok (.lload_n 0, 1) := by decide +kernel
theorem dJ9_max_f86c9_7 : decode cJ9_max_f86c9 7 = .ok (.goto 4, 3) := by decide +kernel
theorem dJ9_max_f86c9_10 : decode cJ9_max_f86c9 10 = .ok (.lload_n 2, 1) := by decide +kernel
theorem dJ9_max_f86c9_11 : decode cJ9_max_f86c9 11 = .ok (.lreturn, 1) := by decide +kernel
theorem dJ9_min_7cf53_0 : decode cJ9_min_7cf53 0 = .ok (.iload_n 0, 1) := by decide +kernel
theorem dJ9_min_7cf53_1 : decode cJ9_min_7cf53 1 = .ok (.iload_n 1, 1) := by decide +kernel
theorem dJ9_min_7cf53_2 : decode cJ9_min_7cf53 2 = .ok (.if_icmp .gt 7, 3) := by decide +kernel
theorem dJ9_min_7cf53_5 : decode cJ9_min_7cf53 5 = .ok (.iload_n 0, 1) := by decide +kernel
theorem dJ9_min_7cf53_6 : decode cJ9_min_7cf53 6 = .ok (.goto 4, 3) := by decide +kernel
theorem dJ9_min_7cf53_9 : decode cJ9_min_7cf53 9 = .ok (.iload_n 1, 1) := by decide +kernel
theorem dJ9_min_7cf53_10 : decode cJ9_min_7cf53 10 = .ok (.ireturn, 1) := by decide +kernel
