theorem dX9_step_34 : decode cX9_step 34 = .ok (.iadd, 1) := by decide +kernel
theorem dX9_step_35 : decode cX9_step 35 = .ok (.putfield 150, 3) := by decide +kernel
theorem dX9_step_38 : decode cX9_step 38 = .ok (.return_, 1) := by decide +kernel
theorem dX9_step_39 : decode cX9_step 39 = .ok (.iload_n 1, 1) := by decide +kernel
theorem dX9_step_40 : decode cX9_step 40 = .ok (.ineg, 1) := by decide +kernel
theorem dX9_step_41 : decode cX9_step 41 = .ok (.iconst 1, 1) := by decide +kernel
theorem dX9_step_42 : decode cX9_step 42 = .ok (.isub, 1) := by decide +kernel
theorem dX9_step_43 : decode cX9_step 43 = .ok (.istore_n 3, 1) := by decide +kernel
theorem dX9_step_44 : decode cX9_step 44 = .ok (.iconst 0, 1) := by decide +kernel
theorem dX9_step_45 : decode cX9_step 45 = .ok (.istore 4, 2) := by decide +kernel
theorem dX9_step_47 : decode cX9_step 47 = .ok (.iload 4, 2) := by decide +kernel
theorem dX9_step_49 : decode cX9_step 49 = .ok (.aload_n 0, 1) := by decide +kernel
theorem dX9_step_50 : decode cX9_step 50 = .ok (.getfield 19, 3) := by decide +kernel
theorem dX9_step_53 : decode cX9_step 53 = .ok (.if_icmp .ge 48, 3) := by decide +kernel
theorem dX9_step_56 : decode cX9_step 56 = .ok (.aload_n 0, 1) := by decide +kernel
theorem dX9_step_57 : decode cX9_step 57 = .ok (.getfield 23, 3) := by decide +kernel
theorem dX9_step_60 : decode cX9_step 60 = .ok (.iconst 4, 1) := by decide +kernel
theorem dX9_step_61 : decode cX9_step 61 = .ok (.iload_n 3, 1) := by decide +kernel
theorem dX9_step_62 : decode cX9_step 62 = .ok (.imul, 1) := by decide +kernel
theorem dX9_step_63 : decode cX9_step 63 = .ok (.iload 4, 2) := by decide +kernel
theorem dX9_step_65 : decode cX9_step 65 = .ok (.iadd, 1) := by decide +kernel
theorem dX9_step_66 : decode cX9_step 66 = .ok (.iaload, 1) := by decide +kernel
theorem dX9_step_67 : decode cX9_step 67 = .ok (.iload_n 2, 1) := by decide +kernel
theorem dX9_step_68 : decode cX9_step 68 = .ok (.if_icmp .ne 27, 3) := by decide +kernel
theorem dX9_step_71 : decode cX9_step 71 = .ok (.aload_n 0, 1) := by decide +kernel
theorem dX9_step_72 : decode cX9_step 72 = .ok (.iload 4, 2) := by decide +kernel
theorem dX9_step_74 : decode cX9_step 74 = .ok (.putfield 147, 3) := by decide +kernel
theorem dX9_step_77 : decode cX9_step 77 = .ok (.aload_n 0, 1) := by decide +kernel
theorem dX9_step_78 : decode cX9_step 78 = .ok (.aload_n 0, 1) := by decide +kernel
theorem dX9_step_79 : decode cX9_step 79 = .ok (.getfield 26, 3) := by decide +kernel
theorem dX9_step_82 : decode cX9_step 82 = .ok (.iconst 4, 1) := by decide +kernel
theorem dX9_step_83 : decode cX9_step 83 = .ok (.iload_n 3, 1) := by decide +kernel
theorem dX9_step_84 : decode cX9_step 84 = .ok (.imul, 1) := by decide +kernel
theorem dX9_step_85 : decode cX9_step 85 = .ok (.iload 4, 2) := by decide +kernel
theorem dX9_step_87 : decode cX9_step 87 = .ok (.iadd, 1) := by decide +kernel
theorem dX9_step_88 : decode cX9_step 88 = .ok (.iaload, 1) := by decide +kernel
theorem dX9_step_89 : decode cX9_step 89 = .ok (.ineg, 1) := by decide +kernel
theorem dX9_step_90 : decode cX9_step 90 = .ok (.iconst 1, 1) := by decide +kernel
theorem dX9_step_91 : decode cX9_step 91 = .ok (.isub, 1) := by decide +kernel
theorem dX9_step_92 : decode cX9_step 92 = .ok (.putfield 150, 3) := by decide +kernel
theorem dX9_step_95 : decode cX9_step 95 = .ok (.iinc 4 1, 3) := by decide +kernel
theorem dX9_step_98 : decode cX9_step 98 = .ok (.goto (-51), 3) := by decide +kernel
theorem dX9_step_101 : decode cX9_step 101 = .ok (.return_, 1) := by decide +kernel
theorem dX9_partAt_0 : decode cX9_partAt 0 = .ok (.iload_n 2, 1) := by decide +kernel
theorem dX9_partAt_1 : decode cX9_partAt 1 = .ok (.istore 4, 2) := by decide +kernel
theorem dX9_partAt_3 : decode cX9_partAt 3 = .ok (.aload_n 0, 1) := by decide +kernel
theorem dX9_partAt_4 : decode cX9_partAt 4 = .ok (.getfield 32, 3) := by decide +kernel
theorem dX9_partAt_7 : decode cX9_partAt 7 = .ok (.iload_n 3, 1) := by decide +kernel
theorem dX9_partAt_8 : decode cX9_partAt 8 = .ok (.iconst 0, 1) := by decide +kernel
theorem dX9_partAt_9 : decode cX9_partAt 9 = .ok (.iastore, 1) := by decide +kernel
theorem dX9_partAt_10 : decode cX9_partAt 10 = .ok (.iconst 0, 1) := by decide +kernel
theorem dX9_partAt_11 : decode cX9_partAt 11 = .ok (.istore 5, 2) := by decide +kernel
theorem dX9_partAt_13 : decode cX9_partAt 13 = .ok (.iload 5, 2) := by decide +kernel
theorem dX9_partAt_15 : decode cX9_partAt 15 = .ok (.aload_n 0, 1) := by decide +kernel
theorem dX9_partAt_16 : decode cX9_partAt 16 = .ok (.getfield 32, 3) := by decide +kernel
theorem dX9_partAt_19 : decode cX9_partAt 19 = .ok (.iload_n 1, 1) := by decide +kernel
theorem dX9_partAt_20 : decode cX9_partAt 20 = .ok (.iaload, 1) := by decide +kernel
theorem dX9_partAt_21 : decode cX9_partAt 21 = .ok (.if_icmp .ge 49, 3) := by decide +kernel
theorem dX9_partAt_24 : decode cX9_partAt 24 = .ok (.aload_n 0, 1) := by decide +kernel
theorem dX9_partAt_25 : decode cX9_partAt 25 = .ok (.aload_n 0, 1) := by decide +kernel
theorem dX9_partAt_26 : decode cX9_partAt 26 = .ok (.getfield 29, 3) := by decide +kernel
theorem dX9_partAt_29 : decode cX9_partAt 29 = .ok (.bipush 34, 2) := by decide +kernel
theorem dX9_partAt_31 : decode cX9_partAt 31 = .ok (.iload_n 1, 1) := by decide +kernel
theorem dX9_partAt_32 : decode cX9_partAt 32 = .ok (.imul, 1) := by decide +kernel
theorem dX9_partAt_33 : decode cX9_partAt 33 = .ok (.iload 5, 2) := by decide +kernel
theorem dX9_partAt_35 : decode cX9_partAt 35 = .ok (.iadd, 1) := by decide +kernel
theorem dX9_partAt_36 : decode cX9_partAt 36 = .ok (.iaload, 1) := by decide +kernel
theorem dX9_partAt_37 : decode cX9_partAt 37 = .ok (.iload 4, 2) := by decide +kernel
theorem dX9_partAt_39 : decode cX9_partAt 39 = .ok (.invokevirtual 153, 3) := by decide +kernel
theorem dX9_partAt_42 : decode cX9_partAt 42 = .ok (.aload_n 0, 1) := by decide +kernel
theorem dX9_partAt_43 : decode cX9_partAt 43 = .ok (.getfield 147, 3) := by decide +kernel
theorem dX9_partAt_46 : decode cX9_partAt 46 = .ok (.istore 4, 2) := by decide +kernel
theorem dX9_partAt_48 : decode cX9_partAt 48 = .ok (.aload_n 0, 1) := by decide +kernel
theorem dX9_partAt_49 : decode cX9_partAt 49 = .ok (.getfield 150, 3) := by decide +kernel
theorem dX9_partAt_52 : decode cX9_partAt 52 = .ok (.ifCond .eq 12, 3) := by decide +kernel
theorem dX9_partAt_55 : decode cX9_partAt 55 = .ok (.aload_n 0, 1) := by decide +kernel
theorem dX9_partAt_56 : decode cX9_partAt 56 = .ok (.iload_n 3, 1) := by decide +kernel
theorem dX9_partAt_57 : decode cX9_partAt 57 = .ok (.aload_n 0, 1) := by decide +kernel
theorem dX9_partAt_58 : decode cX9_partAt 58 = .ok (.getfield 150, 3) := by decide +kernel
theorem dX9_partAt_61 : decode cX9_partAt 61 = .ok (.invokevirtual 144, 3) := by decide +kernel
theorem dX9_partAt_64 : decode cX9_partAt 64 = .ok (.iinc 5 1, 3) := by decide +kernel
theorem dX9_partAt_67 : decode cX9_partAt 67 = .ok (.goto (-54), 3) := by decide +kernel
theorem dX9_partAt_70 : decode cX9_partAt 70 = .ok (.iload 4, 2) := by decide +kernel
theorem dX9_partAt_72 : decode cX9_partAt 72 = .ok (.ireturn, 1) := by decide +kernel
theorem dX9_takeRow_0 : decode cX9_takeRow 0 = .ok (.aload_n 0, 1) := by decide +kernel
theorem dX9_takeRow_1 : decode cX9_takeRow 1 = .ok (.iconst 0, 1) := by decide +kernel
theorem dX9_takeRow_2 : decode cX9_takeRow 2 = .ok (.putfield 156, 3) := by decide +kernel
theorem dX9_takeRow_5 : decode cX9_takeRow 5 = .ok (.iload_n 1, 1) := by decide +kernel
theorem dX9_takeRow_6 : decode cX9_takeRow 6 = .ok (.istore_n 3, 1) := by decide +kernel
theorem dX9_takeRow_7 : decode cX9_takeRow 7 = .ok (.iload_n 1, 1) := by decide +kernel
theorem dX9_takeRow_8 : decode cX9_takeRow 8 = .ok (.iconst 1, 1) := by decide +kernel
theorem dX9_takeRow_9 : decode cX9_takeRow 9 = .ok (.if_icmp .lt 7, 3) := by decide +kernel
theorem dX9_takeRow_12 : decode cX9_takeRow 12 = .ok (.iconst 1, 1) := by decide +kernel
theorem dX9_takeRow_13 : decode cX9_takeRow 13 = .ok (.goto 4, 3) := by decide +kernel
theorem dX9_takeRow_16 : decode cX9_takeRow 16 = .ok (.iconst 0, 1) := by decide +kernel
theorem dX9_takeRow_17 : decode cX9_takeRow 17 = .ok (.istore 4, 2) := by decide +kernel
theorem dX9_takeRow_19 : decode cX9_takeRow 19 = .ok (.iload 4, 2) := by decide +kernel
theorem dX9_takeRow_21 : decode cX9_takeRow 21 = .ok (.ifCond .eq 55, 3) := by decide +kernel
theorem dX9_takeRow_24 : decode cX9_takeRow 24 = .ok (.iload_n 3, 1) := by decide +kernel
theorem dX9_takeRow_25 : decode cX9_takeRow 25 = .ok (.iconst 1, 1) := by decide +kernel
theorem dX9_takeRow_26 : decode cX9_takeRow 26 = .ok (.if_icmp .le 50, 3) := by decide +kernel
theorem dX9_takeRow_29 : decode cX9_takeRow 29 = .ok (.iload_n 3, 1) := by decide +kernel
theorem dX9_takeRow_30 : decode cX9_takeRow 30 = .ok (.iconst 4, 1) := by decide +kernel
theorem dX9_takeRow_31 : decode cX9_takeRow 31 = .ok (.if_icmp .lt 25, 3) := by decide +kernel
theorem dX9_takeRow_34 : decode cX9_takeRow 34 = .ok (.iload_n 3, 1) := by decide +kernel
theorem dX9_takeRow_35 : decode cX9_takeRow 35 = .ok (.iconst 4, 1) := by decide +kernel
theorem dX9_takeRow_36 : decode cX9_takeRow 36 = .ok (.irem, 1) := by decide +kernel
theorem dX9_takeRow_37 : decode cX9_takeRow 37 = .ok (.aload_n 0, 1) := by decide +kernel
theorem dX9_takeRow_38 : decode cX9_takeRow 38 = .ok (.getfield 19, 3) := by decide +kernel
theorem dX9_takeRow_41 : decode cX9_takeRow 41 = .ok (.if_icmp .ge 15, 3) := by decide +kernel
theorem dX9_takeRow_44 : decode cX9_takeRow 44 = .ok (.aload_n 0, 1) := by decide +kernel
theorem dX9_takeRow_45 : decode cX9_takeRow 45 = .ok (.getfield 156, 3) := by decide +kernel
theorem dX9_takeRow_48 : decode cX9_takeRow 48 = .ok (.iload_n 2, 1) := by decide +kernel
theorem dX9_takeRow_49 : decode cX9_takeRow 49 = .ok (.if_icmp .ge 7, 3) := by decide +kernel
theorem dX9_takeRow_52 : decode cX9_takeRow 52 = .ok (.iconst 1, 1) := by decide +kernel
theorem dX9_takeRow_53 : decode cX9_takeRow 53 = .ok (.goto 4, 3) := by decide +kernel
theorem dX9_takeRow_56 : decode cX9_takeRow 56 = .ok (.iconst 0, 1) := by decide +kernel
theorem dX9_takeRow_57 : decode cX9_takeRow 57 = .ok (.istore 4, 2) := by decide +kernel
theorem dX9_takeRow_59 : decode cX9_takeRow 59 = .ok (.iload_n 3, 1) := by decide +kernel
theorem dX9_takeRow_60 : decode cX9_takeRow 60 = .ok (.iconst 4, 1) := by decide +kernel
theorem dX9_takeRow_61 : decode cX9_takeRow 61 = .ok (.idiv, 1) := by decide +kernel
theorem dX9_takeRow_62 : decode cX9_takeRow 62 = .ok (.istore_n 3, 1) := by decide +kernel
theorem dX9_takeRow_63 : decode cX9_takeRow 63 = .ok (.aload_n 0, 1) := by decide +kernel
theorem dX9_takeRow_64 : decode cX9_takeRow 64 = .ok (.dup, 1) := by decide +kernel
theorem dX9_takeRow_65 : decode cX9_takeRow 65 = .ok (.getfield 156, 3) := by decide +kernel
theorem dX9_takeRow_68 : decode cX9_takeRow 68 = .ok (.iconst 1, 1) := by decide +kernel
theorem dX9_takeRow_69 : decode cX9_takeRow 69 = .ok (.iadd, 1) := by decide +kernel
theorem dX9_takeRow_70 : decode cX9_takeRow 70 = .ok (.putfield 156, 3) := by decide +kernel
theorem dX9_takeRow_73 : decode cX9_takeRow 73 = .ok (.goto (-54), 3) := by decide +kernel
theorem dX9_takeRow_76 : decode cX9_takeRow 76 = .ok (.iload 4, 2) := by decide +kernel
theorem dX9_takeRow_78 : decode cX9_takeRow 78 = .ok (.ifCond .ne 5, 3) := by decide +kernel
theorem dX9_takeRow_81 : decode cX9_takeRow 81 = .ok (.iconst 0, 1) := by decide +kernel
theorem dX9_takeRow_82 : decode cX9_takeRow 82 = .ok (.ireturn, 1) := by decide +kernel
theorem dX9_takeRow_83 : decode cX9_takeRow 83 = .ok (.iload_n 1, 1) := by decide +kernel
theorem dX9_takeRow_84 : decode cX9_takeRow 84 = .ok (.istore_n 3, 1) := by decide +kernel
theorem dX9_takeRow_85 : decode cX9_takeRow 85 = .ok (.aload_n 0, 1) := by decide +kernel
theorem dX9_takeRow_86 : decode cX9_takeRow 86 = .ok (.getfield 156, 3) := by decide +kernel
theorem dX9_takeRow_89 : decode cX9_takeRow 89 = .ok (.iconst 1, 1) := by decide +kernel
theorem dX9_takeRow_90 : decode cX9_takeRow 90 = .ok (.isub, 1) := by decide +kernel
theorem dX9_takeRow_91 : decode cX9_takeRow 91 = .ok (.istore 5, 2) := by decide +kernel
theorem dX9_takeRow_93 : decode cX9_takeRow 93 = .ok (.iload 5, 2) := by decide +kernel
theorem dX9_takeRow_95 : decode cX9_takeRow 95 = .ok (.ifCond .lt 23, 3) := by decide +kernel
theorem dX9_takeRow_98 : decode cX9_takeRow 98 = .ok (.aload_n 0, 1) := by decide +kernel
theorem dX9_takeRow_99 : decode cX9_takeRow 99 = .ok (.getfield 45, 3) := by decide +kernel
theorem dX9_takeRow_102 : decode cX9_takeRow 102 = .ok (.iload 5, 2) := by decide +kernel
theorem dX9_takeRow_104 : decode cX9_takeRow 104 = .ok (.iload_n 3, 1) := by decide +kernel
theorem dX9_takeRow_105 : decode cX9_takeRow 105 = .ok (.iconst 4, 1) := by decide +kernel
theorem dX9_takeRow_106 : decode cX9_takeRow 106 = .ok (.irem, 1) := by decide +kernel
theorem dX9_takeRow_107 : decode cX9_takeRow 107 = .ok (.iastore, 1) := by decide +kernel
theorem dX9_takeRow_108 : decode cX9_takeRow 108 = .ok (.iload_n 3, 1) := by decide +kernel
theorem dX9_takeRow_109 : decode cX9_takeRow 109 = .ok (.iconst 4, 1) := by decide +kernel
theorem dX9_takeRow_110 : decode cX9_takeRow 110 = .ok (.idiv, 1) := by decide +kernel
theorem dX9_takeRow_111 : decode cX9_takeRow 111 = .ok (.istore_n 3, 1) := by decide +kernel
theorem dX9_takeRow_112 : decode cX9_takeRow 112 = .ok (.iinc 5 (-1), 3) := by decide +kernel
theorem dX9_takeRow_115 : decode cX9_takeRow 115 = .ok (.goto (-22), 3) := by decide +kernel
theorem dX9_takeRow_118 : decode cX9_takeRow 118 = .ok (.iconst 1, 1) := by decide +kernel
theorem dX9_takeRow_119 : decode cX9_takeRow 119 = .ok (.ireturn, 1) := by decide +kernel
theorem dX9_rowNumber_0 : decode cX9_rowNumber 0 = .ok (.iconst 1, 1) := by decide +kernel
theorem dX9_rowNumber_1 : decode cX9_rowNumber 1 = .ok (.istore_n 1, 1) := by decide +kernel
theorem dX9_rowNumber_2 : decode cX9_rowNumber 2 = .ok (.iconst 0, 1) := by decide +kernel
theorem dX9_rowNumber_3 : decode cX9_rowNumber 3 = .ok (.istore_n 2, 1) := by decide +kernel
theorem dX9_rowNumber_4 : decode cX9_rowNumber 4 = .ok (.iload_n 2, 1) := by decide +kernel
theorem dX9_rowNumber_5 : decode cX9_rowNumber 5 = .ok (.aload_n 0, 1) := by decide +kernel
theorem dX9_rowNumber_6 : decode cX9_rowNumber 6 = .ok (.getfield 156, 3) := by decide +kernel
theorem dX9_rowNumber_9 : decode cX9_rowNumber 9 = .ok (.if_icmp .ge 20, 3) := by decide +kernel
theorem dX9_rowNumber_12 : decode cX9_rowNumber 12 = .ok (.iconst 4, 1) := by decide +kernel
theorem dX9_rowNumber_13 : decode cX9_rowNumber 13 = .ok (.iload_n 1, 1) := by decide +kernel
theorem dX9_rowNumber_14 : decode cX9_rowNumber 14 = .ok (.imul, 1) := by decide +kernel
theorem dX9_rowNumber_15 : decode cX9_rowNumber 15 = .ok (.aload_n 0, 1) := by decide +kernel
theorem dX9_rowNumber_16 : decode cX9_rowNumber 16 = .ok (.getfield 45, 3) := by decide +kernel
theorem dX9_rowNumber_19 : decode cX9_rowNumber 19 = .ok (.iload_n 2, 1) := by decide +kernel
theorem dX9_rowNumber_20 : decode cX9_rowNumber 20 = .ok (.iaload, 1) := by decide +kernel
theorem dX9_rowNumber_21 : decode cX9_rowNumber 21 = .ok (.iadd, 1) := by decide +kernel
theorem dX9_rowNumber_22 : decode cX9_rowNumber 22 = .ok (.istore_n 1, 1) := by decide +kernel
theorem dX9_rowNumber_23 : decode cX9_rowNumber 23 = .ok (.iinc 2 1, 3) := by decide +kernel
theorem dX9_rowNumber_26 : decode cX9_rowNumber 26 = .ok (.goto (-22), 3) := by decide +kernel
theorem dX9_rowNumber_29 : decode cX9_rowNumber 29 = .ok (.iload_n 1, 1) := by decide +kernel
theorem dX9_rowNumber_30 : decode cX9_rowNumber 30 = .ok (.ireturn, 1) := by decide +kernel
theorem dX9_rewrite_0 : decode cX9_rewrite 0 = .ok (.iload_n 1, 1) := by decide +kernel
theorem dX9_rewrite_1 : decode cX9_rewrite 1 = .ok (.istore_n 2, 1) := by decide +kernel
theorem dX9_rewrite_2 : decode cX9_rewrite 2 = .ok (.iconst 0, 1) := by decide +kernel
theorem dX9_rewrite_3 : decode cX9_rewrite 3 = .ok (.istore_n 3, 1) := by decide +kernel
theorem dX9_rewrite_4 : decode cX9_rewrite 4 = .ok (.iload_n 3, 1) := by decide +kernel
theorem dX9_rewrite_5 : decode cX9_rewrite 5 = .ok (.aload_n 0, 1) := by decide +kernel
theorem dX9_rewrite_6 : decode cX9_rewrite 6 = .ok (.getfield 156, 3) := by decide +kernel
theorem dX9_rewrite_9 : decode cX9_rewrite 9 = .ok (.if_icmp .ge 39, 3) := by decide +kernel
theorem dX9_rewrite_12 : decode cX9_rewrite 12 = .ok (.iload_n 2, 1) := by decide +kernel
theorem dX9_rewrite_13 : decode cX9_rewrite 13 = .ok (.ifCond .eq 35, 3) := by decide +kernel
theorem dX9_rewrite_16 : decode cX9_rewrite 16 = .ok (.aload_n 0, 1) := by decide +kernel
theorem dX9_rewrite_17 : decode cX9_rewrite 17 = .ok (.iload_n 2, 1) := by decide +kernel
theorem dX9_rewrite_18 : decode cX9_rewrite 18 = .ok (.aload_n 0, 1) := by decide +kernel
theorem dX9_rewrite_19 : decode cX9_rewrite 19 = .ok (.getfield 45, 3) := by decide +kernel
theorem dX9_rewrite_22 : decode cX9_rewrite 22 = .ok (.iload_n 3, 1) := by decide +kernel
theorem dX9_rewrite_23 : decode cX9_rewrite 23 = .ok (.iaload, 1) := by decide +kernel
theorem dX9_rewrite_24 : decode cX9_rewrite 24 = .ok (.invokevirtual 153, 3) := by decide +kernel
theorem dX9_rewrite_27 : decode cX9_rewrite 27 = .ok (.aload_n 0, 1) := by decide +kernel
theorem dX9_rewrite_28 : decode cX9_rewrite 28 = .ok (.getfield 45, 3) := by decide +kernel
theorem dX9_rewrite_31 : decode cX9_rewrite 31 = .ok (.iload_n 3, 1) := by decide +kernel
theorem dX9_rewrite_32 : decode cX9_rewrite 32 = .ok (.aload_n 0, 1) := by decide +kernel
theorem dX9_rewrite_33 : decode cX9_rewrite 33 = .ok (.getfield 147, 3) := by decide +kernel
theorem dX9_rewrite_36 : decode cX9_rewrite 36 = .ok (.iastore, 1) := by decide +kernel
theorem dX9_rewrite_37 : decode cX9_rewrite 37 = .ok (.aload_n 0, 1) := by decide +kernel
theorem dX9_rewrite_38 : decode cX9_rewrite 38 = .ok (.getfield 150, 3) := by decide +kernel
theorem dX9_rewrite_41 : decode cX9_rewrite 41 = .ok (.istore_n 2, 1) := by decide +kernel
theorem dX9_rewrite_42 : decode cX9_rewrite 42 = .ok (.iinc 3 1, 3) := by decide +kernel
theorem dX9_rewrite_45 : decode cX9_rewrite 45 = .ok (.goto (-41), 3) := by decide +kernel
theorem dX9_rewrite_48 : decode cX9_rewrite 48 = .ok (.return_, 1) := by decide +kernel
theorem dX9_act_0 : decode cX9_act 0 = .ok (.iload_n 1, 1) := by decide +kernel
theorem dX9_act_1 : decode cX9_act 1 = .ok (.invokestatic 137, 3) := by decide +kernel
theorem dX9_act_4 : decode cX9_act 4 = .ok (.ifCond .eq 13, 3) := by decide +kernel
theorem dX9_act_7 : decode cX9_act 7 = .ok (.aload_n 0, 1) := by decide +kernel
theorem dX9_act_8 : decode cX9_act 8 = .ok (.iload_n 2, 1) := by decide +kernel
theorem dX9_act_9 : decode cX9_act 9 = .ok (.bipush 10, 2) := by decide +kernel
theorem dX9_act_11 : decode cX9_act 11 = .ok (.invokevirtual 159, 3) := by decide +kernel
theorem dX9_act_14 : decode cX9_act 14 = .ok (.ifCond .ne 5, 3) := by decide +kernel
theorem dX9_act_17 : decode cX9_act 17 = .ok (.iconst (-1), 1) := by decide +kernel
theorem dX9_act_18 : decode cX9_act 18 = .ok (.ireturn, 1) := by decide +kernel
theorem dX9_act_19 : decode cX9_act 19 = .ok (.aload_n 0, 1) := by decide +kernel
theorem dX9_act_20 : decode cX9_act 20 = .ok (.invokevirtual 133, 3) := by decide +kernel
theorem dX9_act_23 : decode cX9_act 23 = .ok (.ifCond .ne 6, 3) := by decide +kernel
theorem dX9_act_26 : decode cX9_act 26 = .ok (.bipush (-5), 2) := by decide +kernel
theorem dX9_act_28 : decode cX9_act 28 = .ok (.ireturn, 1) := by decide +kernel
theorem dX9_act_29 : decode cX9_act 29 = .ok (.iconst 0, 1) := by decide +kernel
theorem dX9_act_30 : decode cX9_act 30 = .ok (.istore_n 3, 1) := by decide +kernel
theorem dX9_act_31 : decode cX9_act 31 = .ok (.iload_n 3, 1) := by decide +kernel
theorem dX9_act_32 : decode cX9_act 32 = .ok (.aload_n 0, 1) := by decide +kernel
theorem dX9_act_33 : decode cX9_act 33 = .ok (.getfield 32, 3) := by decide +kernel
theorem dX9_act_36 : decode cX9_act 36 = .ok (.iload_n 1, 1) := by decide +kernel
theorem dX9_act_37 : decode cX9_act 37 = .ok (.iaload, 1) := by decide +kernel
theorem dX9_act_38 : decode cX9_act 38 = .ok (.if_icmp .ge 24, 3) := by decide +kernel
theorem dX9_act_41 : decode cX9_act 41 = .ok (.aload_n 0, 1) := by decide +kernel
theorem dX9_act_42 : decode cX9_act 42 = .ok (.aload_n 0, 1) := by decide +kernel
theorem dX9_act_43 : decode cX9_act 43 = .ok (.getfield 29, 3) := by decide +kernel
theorem dX9_act_46 : decode cX9_act 46 = .ok (.bipush 34, 2) := by decide +kernel
theorem dX9_act_48 : decode cX9_act 48 = .ok (.iload_n 1, 1) := by decide +kernel
theorem dX9_act_49 : decode cX9_act 49 = .ok (.imul, 1) := by decide +kernel
theorem dX9_act_50 : decode cX9_act 50 = .ok (.iload_n 3, 1) := by decide +kernel
theorem dX9_act_51 : decode cX9_act 51 = .ok (.iadd, 1) := by decide +kernel
theorem dX9_act_52 : decode cX9_act 52 = .ok (.iaload, 1) := by decide +kernel
theorem dX9_act_53 : decode cX9_act 53 = .ok (.invokevirtual 163, 3) := by decide +kernel
theorem dX9_act_56 : decode cX9_act 56 = .ok (.iinc 3 1, 3) := by decide +kernel
theorem dX9_act_59 : decode cX9_act 59 = .ok (.goto (-28), 3) := by decide +kernel
theorem dX9_act_62 : decode cX9_act 62 = .ok (.aload_n 0, 1) := by decide +kernel
theorem dX9_act_63 : decode cX9_act 63 = .ok (.invokevirtual 167, 3) := by decide +kernel
theorem dX9_act_66 : decode cX9_act 66 = .ok (.ireturn, 1) := by decide +kernel
theorem dX9_partAtRow_0 : decode cX9_partAtRow 0 = .ok (.aload_n 0, 1) := by decide +kernel
theorem dX9_partAtRow_1 : decode cX9_partAtRow 1 = .ok (.iload_n 2, 1) := by decide +kernel
theorem dX9_partAtRow_2 : decode cX9_partAtRow 2 = .ok (.iload_n 1, 1) := by decide +kernel
theorem dX9_partAtRow_3 : decode cX9_partAtRow 3 = .ok (.invokevirtual 140, 3) := by decide +kernel
theorem dX9_partAtRow_6 : decode cX9_partAtRow 6 = .ok (.iconst 0, 1) := by decide +kernel
theorem dX9_partAtRow_7 : decode cX9_partAtRow 7 = .ok (.istore_n 3, 1) := by decide +kernel
theorem dX9_partAtRow_8 : decode cX9_partAtRow 8 = .ok (.iload_n 3, 1) := by decide +kernel
theorem dX9_partAtRow_9 : decode cX9_partAtRow 9 = .ok (.aload_n 0, 1) := by decide +kernel
theorem dX9_partAtRow_10 : decode cX9_partAtRow 10 = .ok (.getfield 156, 3) := by decide +kernel
theorem dX9_partAtRow_13 : decode cX9_partAtRow 13 = .ok (.if_icmp .ge 31, 3) := by decide +kernel
theorem dX9_partAtRow_16 : decode cX9_partAtRow 16 = .ok (.aload_n 0, 1) := by decide +kernel
theorem dX9_partAtRow_17 : decode cX9_partAtRow 17 = .ok (.iload_n 2, 1) := by decide +kernel
theorem dX9_partAtRow_18 : decode cX9_partAtRow 18 = .ok (.aload_n 0, 1) := by decide +kernel
theorem dX9_partAtRow_19 : decode cX9_partAtRow 19 = .ok (.getfield 45, 3) := by decide +kernel
theorem dX9_partAtRow_22 : decode cX9_partAtRow 22 = .ok (.iload_n 3, 1) := by decide +kernel
theorem dX9_partAtRow_23 : decode cX9_partAtRow 23 = .ok (.iaload, 1) := by decide +kernel
theorem dX9_partAtRow_24 : decode cX9_partAtRow 24 = .ok (.bipush 11, 2) := by decide +kernel
theorem dX9_partAtRow_26 : decode cX9_partAtRow 26 = .ok (.invokevirtual 171, 3) := by decide +kernel
theorem dX9_partAtRow_29 : decode cX9_partAtRow 29 = .ok (.istore 4, 2) := by decide +kernel
theorem dX9_partAtRow_31 : decode cX9_partAtRow 31 = .ok (.aload_n 0, 1) := by decide +kernel
theorem dX9_partAtRow_32 : decode cX9_partAtRow 32 = .ok (.iload_n 2, 1) := by decide +kernel
theorem dX9_partAtRow_33 : decode cX9_partAtRow 33 = .ok (.bipush 11, 2) := by decide +kernel
theorem dX9_partAtRow_35 : decode cX9_partAtRow 35 = .ok (.invokevirtual 140, 3) := by decide +kernel
theorem dX9_partAtRow_38 : decode cX9_partAtRow 38 = .ok (.iinc 3 1, 3) := by decide +kernel
theorem dX9_partAtRow_41 : decode cX9_partAtRow 41 = .ok (.goto (-33), 3) := by decide +kernel
theorem dX9_partAtRow_44 : decode cX9_partAtRow 44 = .ok (.return_, 1) := by decide +kernel
theorem dX9_part_0 : decode cX9_part 0 = .ok (.iload_n 1, 1) := by decide +kernel
theorem dX9_part_1 : decode cX9_part 1 = .ok (.invokestatic 137, 3) := by decide +kernel
theorem dX9_part_4 : decode cX9_part 4 = .ok (.ifCond .eq 20, 3) := by decide +kernel
theorem dX9_part_7 : decode cX9_part 7 = .ok (.aload_n 0, 1) := by decide +kernel
theorem dX9_part_8 : decode cX9_part 8 = .ok (.iload_n 2, 1) := by decide +kernel
theorem dX9_part_9 : decode cX9_part 9 = .ok (.bipush 10, 2) := by decide +kernel
theorem dX9_part_11 : decode cX9_part 11 = .ok (.invokevirtual 159, 3) := by decide +kernel
theorem dX9_part_14 : decode cX9_part 14 = .ok (.ifCond .eq 10, 3) := by decide +kernel
theorem dX9_part_17 : decode cX9_part 17 = .ok (.iload_n 3, 1) := by decide +kernel
theorem dX9_part_18 : decode cX9_part 18 = .ok (.invokestatic 137, 3) := by decide +kernel
theorem dX9_part_21 : decode cX9_part 21 = .ok (.ifCond .ne 5, 3) := by decide +kernel
theorem dX9_part_24 : decode cX9_part 24 = .ok (.iconst (-1), 1) := by decide +kernel
theorem dX9_part_25 : decode cX9_part 25 = .ok (.ireturn, 1) := by decide +kernel
theorem dX9_part_26 : decode cX9_part 26 = .ok (.aload_n 0, 1) := by decide +kernel
theorem dX9_part_27 : decode cX9_part 27 = .ok (.invokevirtual 133, 3) := by decide +kernel
theorem dX9_part_30 : decode cX9_part 30 = .ok (.ifCond .ne 6, 3) := by decide +kernel
theorem dX9_part_33 : decode cX9_part 33 = .ok (.bipush (-5), 2) := by decide +kernel
theorem dX9_part_35 : decode cX9_part 35 = .ok (.ireturn, 1) := by decide +kernel
theorem dX9_part_36 : decode cX9_part 36 = .ok (.aload_n 0, 1) := by decide +kernel
theorem dX9_part_37 : decode cX9_part 37 = .ok (.iload_n 1, 1) := by decide +kernel
theorem dX9_part_38 : decode cX9_part 38 = .ok (.bipush 8, 2) := by decide +kernel
theorem dX9_part_40 : decode cX9_part 40 = .ok (.invokevirtual 175, 3) := by decide +kernel
theorem dX9_part_43 : decode cX9_part 43 = .ok (.aload_n 0, 1) := by decide +kernel
theorem dX9_part_44 : decode cX9_part 44 = .ok (.iload_n 3, 1) := by decide +kernel
theorem dX9_part_45 : decode cX9_part 45 = .ok (.bipush 8, 2) := by decide +kernel
theorem dX9_part_47 : decode cX9_part 47 = .ok (.invokevirtual 140, 3) := by decide +kernel
theorem dX9_part_50 : decode cX9_part 50 = .ok (.aload_n 0, 1) := by decide +kernel
theorem dX9_part_51 : decode cX9_part 51 = .ok (.getfield 32, 3) := by decide +kernel
theorem dX9_part_54 : decode cX9_part 54 = .ok (.iload_n 3, 1) := by decide +kernel
theorem dX9_part_55 : decode cX9_part 55 = .ok (.iaload, 1) := by decide +kernel
theorem dX9_part_56 : decode cX9_part 56 = .ok (.ireturn, 1) := by decide +kernel
theorem dX9_findInHeap_0 : decode cX9_findInHeap 0 = .ok (.iconst (-1), 1) := by decide +kernel
theorem dX9_findInHeap_1 : decode cX9_findInHeap 1 = .ok (.istore_n 2, 1) := by decide +kernel
theorem dX9_findInHeap_2 : decode cX9_findInHeap 2 = .ok (.iconst 0, 1) := by decide +kernel
theorem dX9_findInHeap_3 : decode cX9_findInHeap 3 = .ok (.istore_n 3, 1) := by decide +kernel
theorem dX9_findInHeap_4 : decode cX9_findInHeap 4 = .ok (.iload_n 3, 1) := by decide +kernel
theorem dX9_findInHeap_5 : decode cX9_findInHeap 5 = .ok (.aload_n 0, 1) := by decide +kernel
theorem dX9_findInHeap_6 : decode cX9_findInHeap 6 = .ok (.getfield 178, 3) := by decide +kernel
theorem dX9_findInHeap_9 : decode cX9_findInHeap 9 = .ok (.if_icmp .ge 105, 3) := by decide +kernel
theorem dX9_findInHeap_12 : decode cX9_findInHeap 12 = .ok (.iload_n 2, 1) := by decide +kernel
theorem dX9_findInHeap_13 : decode cX9_findInHeap 13 = .ok (.ifCond .ge 101, 3) := by decide +kernel
theorem dX9_findInHeap_16 : decode cX9_findInHeap 16 = .ok (.aload_n 0, 1) := by decide +kernel
theorem dX9_findInHeap_17 : decode cX9_findInHeap 17 = .ok (.getfield 51, 3) := by decide +kernel
theorem dX9_findInHeap_20 : decode cX9_findInHeap 20 = .ok (.iload_n 3, 1) := by decide +kernel
theorem dX9_findInHeap_21 : decode cX9_findInHeap 21 = .ok (.iaload, 1) := by decide +kernel
theorem dX9_findInHeap_22 : decode cX9_findInHeap 22 = .ok (.aload_n 0, 1) := by decide +kernel
theorem dX9_findInHeap_23 : decode cX9_findInHeap 23 = .ok (.getfield 32, 3) := by decide +kernel
theorem dX9_findInHeap_26 : decode cX9_findInHeap 26 = .ok (.iload_n 1, 1) := by decide +kernel
theorem dX9_findInHeap_27 : decode cX9_findInHeap 27 = .ok (.iaload, 1) := by decide +kernel
theorem dX9_findInHeap_28 : decode cX9_findInHeap 28 = .ok (.if_icmp .ne 7, 3) := by decide +kernel
theorem dX9_findInHeap_31 : decode cX9_findInHeap 31 = .ok (.iconst 1, 1) := by decide +kernel
theorem dX9_findInHeap_32 : decode cX9_findInHeap 32 = .ok (.goto 4, 3) := by decide +kernel
theorem dX9_findInHeap_35 : decode cX9_findInHeap 35 = .ok (.iconst 0, 1) := by decide +kernel
theorem dX9_findInHeap_36 : decode cX9_findInHeap 36 = .ok (.istore 4, 2) := by decide +kernel
theorem dX9_findInHeap_38 : decode cX9_findInHeap 38 = .ok (.iconst 0, 1) := by decide +kernel
theorem dX9_findInHeap_39 : decode cX9_findInHeap 39 = .ok (.istore 5, 2) := by decide +kernel
theorem dX9_findInHeap_41 : decode cX9_findInHeap 41 = .ok (.iload 5, 2) := by decide +kernel
theorem dX9_findInHeap_43 : decode cX9_findInHeap 43 = .ok (.aload_n 0, 1) := by decide +kernel
theorem dX9_findInHeap_44 : decode cX9_findInHeap 44 = .ok (.getfield 32, 3) := by decide +kernel
theorem dX9_findInHeap_47 : decode cX9_findInHeap 47 = .ok (.iload_n 1, 1) := by decide +kernel
theorem dX9_findInHeap_48 : decode cX9_findInHeap 48 = .ok (.iaload, 1) := by decide +kernel
theorem dX9_findInHeap_49 : decode cX9_findInHeap 49 = .ok (.if_icmp .ge 48, 3) := by decide +kernel
theorem dX9_findInHeap_52 : decode cX9_findInHeap 52 = .ok (.iload 4, 2) := by decide +kernel
theorem dX9_findInHeap_54 : decode cX9_findInHeap 54 = .ok (.ifCond .eq 43, 3) := by decide +kernel
theorem dX9_findInHeap_57 : decode cX9_findInHeap 57 = .ok (.aload_n 0, 1) := by decide +kernel
theorem dX9_findInHeap_58 : decode cX9_findInHeap 58 = .ok (.getfield 48, 3) := by decide +kernel
theorem dX9_findInHeap_61 : decode cX9_findInHeap 61 = .ok (.bipush 16, 2) := by decide +kernel
theorem dX9_findInHeap_63 : decode cX9_findInHeap 63 = .ok (.iload_n 3, 1) := by decide +kernel
theorem dX9_findInHeap_64 : decode cX9_findInHeap 64 = .ok (.imul, 1) := by decide +kernel
theorem dX9_findInHeap_65 : decode cX9_findInHeap 65 = .ok (.iload 5, 2) := by decide +kernel
theorem dX9_findInHeap_67 : decode cX9_findInHeap 67 = .ok (.iadd, 1) := by decide +kernel
theorem dX9_findInHeap_68 : decode cX9_findInHeap 68 = .ok (.iaload, 1) := by decide +kernel
theorem dX9_findInHeap_69 : decode cX9_findInHeap 69 = .ok (.aload_n 0, 1) := by decide +kernel
theorem dX9_findInHeap_70 : decode cX9_findInHeap 70 = .ok (.getfield 29, 3) := by decide +kernel
theorem dX9_findInHeap_73 : decode cX9_findInHeap 73 = .ok (.bipush 34, 2) := by decide +kernel
theorem dX9_findInHeap_75 : decode cX9_findInHeap 75 = .ok (.iload_n 1, 1) := by decide +kernel
theorem dX9_findInHeap_76 : decode cX9_findInHeap 76 = .ok (.imul, 1) := by decide +kernel
theorem dX9_findInHeap_77 : decode cX9_findInHeap 77 = .ok (.iload 5, 2) := by decide +kernel
theorem dX9_findInHeap_79 : decode cX9_findInHeap 79 = .ok (.iadd, 1) := by decide +kernel
theorem dX9_findInHeap_80 : decode cX9_findInHeap 80 = .ok (.iaload, 1) := by decide +kernel
theorem dX9_findInHeap_81 : decode cX9_findInHeap 81 = .ok (.if_icmp .ne 7, 3) := by decide +kernel
theorem dX9_findInHeap_84 : decode cX9_findInHeap 84 = .ok (.iconst 1, 1) := by decide +kernel
theorem dX9_findInHeap_85 : decode cX9_findInHeap 85 = .ok (.goto 4, 3) := by decide +kernel
theorem dX9_findInHeap_88 : decode cX9_findInHeap 88 = .ok (.iconst 0, 1) := by decide +kernel
theorem dX9_findInHeap_89 : decode cX9_findInHeap 89 = .ok (.istore 4, 2) := by decide +kernel
theorem dX9_findInHeap_91 : decode cX9_findInHeap 91 = .ok (.iinc 5 1, 3) := by decide +kernel
theorem dX9_findInHeap_94 : decode cX9_findInHeap 94 = .ok (.goto (-53), 3) := by decide +kernel
theorem dX9_findInHeap_97 : decode cX9_findInHeap 97 = .ok (.iload 4, 2) := by decide +kernel
theorem dX9_findInHeap_99 : decode cX9_findInHeap 99 = .ok (.ifCond .eq 7, 3) := by decide +kernel
theorem dX9_findInHeap_102 : decode cX9_findInHeap 102 = .ok (.iload_n 3, 1) := by decide +kernel
theorem dX9_findInHeap_103 : decode cX9_findInHeap 103 = .ok (.goto 4, 3) := by decide +kernel
theorem dX9_findInHeap_106 : decode cX9_findInHeap 106 = .ok (.iconst (-1), 1) := by decide +kernel
theorem dX9_findInHeap_107 : decode cX9_findInHeap 107 = .ok (.istore_n 2, 1) := by decide +kernel
theorem dX9_findInHeap_108 : decode cX9_findInHeap 108 = .ok (.iinc 3 1, 3) := by decide +kernel
theorem dX9_findInHeap_111 : decode cX9_findInHeap 111 = .ok (.goto (-107), 3) := by decide +kernel
theorem dX9_findInHeap_114 : decode cX9_findInHeap 114 = .ok (.iload_n 2, 1) := by decide +kernel
theorem dX9_findInHeap_115 : decode cX9_findInHeap 115 = .ok (.ireturn, 1) := by decide +kernel
theorem dX9_toHeap_0 : decode cX9_toHeap 0 = .ok (.aload_n 0, 1) := by decide +kernel
theorem dX9_toHeap_1 : decode cX9_toHeap 1 = .ok (.iload_n 1, 1) := by decide +kernel
theorem dX9_toHeap_2 : decode cX9_toHeap 2 = .ok (.invokevirtual 181, 3) := by decide +kernel
theorem dX9_toHeap_5 : decode cX9_toHeap 5 = .ok (.istore_n 2, 1) := by decide +kernel
theorem dX9_toHeap_6 : decode cX9_toHeap 6 = .ok (.iload_n 2, 1) := by decide +kernel
theorem dX9_toHeap_7 : decode cX9_toHeap 7 = .ok (.ifCond .ge 80, 3) := by decide +kernel
theorem dX9_toHeap_10 : decode cX9_toHeap 10 = .ok (.aload_n 0, 1) := by decide +kernel
theorem dX9_toHeap_11 : decode cX9_toHeap 11 = .ok (.getfield 178, 3) := by decide +kernel
theorem dX9_toHeap_14 : decode cX9_toHeap 14 = .ok (.sipush 200, 3) := by decide +kernel
theorem dX9_toHeap_17 : decode cX9_toHeap 17 = .ok (.if_icmp .gt 70, 3) := by decide +kernel
theorem dX9_toHeap_20 : decode cX9_toHeap 20 = .ok (.aload_n 0, 1) := by decide +kernel
theorem dX9_toHeap_21 : decode cX9_toHeap 21 = .ok (.getfield 178, 3) := by decide +kernel
theorem dX9_toHeap_24 : decode cX9_toHeap 24 = .ok (.istore_n 2, 1) := by decide +kernel
theorem dX9_toHeap_25 : decode cX9_toHeap 25 = .ok (.aload_n 0, 1) := by decide +kernel
theorem dX9_toHeap_26 : decode cX9_toHeap 26 = .ok (.getfield 51, 3) := by decide +kernel
theorem dX9_toHeap_29 : decode cX9_toHeap 29 = .ok (.iload_n 2, 1) := by decide +kernel
theorem dX9_toHeap_30 : decode cX9_toHeap 30 = .ok (.aload_n 0, 1) := by decide +kernel
theorem dX9_toHeap_31 : decode cX9_toHeap 31 = .ok (.getfield 32, 3) := by decide +kernel
theorem dX9_toHeap_34 : decode cX9_toHeap 34 = .ok (.iload_n 1, 1) := by decide +kernel
theorem dX9_toHeap_35 : decode cX9_toHeap 35 = .ok (.iaload, 1) := by decide +kernel
theorem dX9_toHeap_36 : decode cX9_toHeap 36 = .ok (.iastore, 1) := by decide +kernel
theorem dX9_toHeap_37 : decode cX9_toHeap 37 = .ok (.iconst 0, 1) := by decide +kernel
theorem dX9_toHeap_38 : decode cX9_toHeap 38 = .ok (.istore_n 3, 1) := by decide +kernel
theorem dX9_toHeap_39 : decode cX9_toHeap 39 = .ok (.iload_n 3, 1) := by decide +kernel
theorem dX9_toHeap_40 : decode cX9_toHeap 40 = .ok (.aload_n 0, 1) := by decide +kernel
theorem dX9_toHeap_41 : decode cX9_toHeap 41 = .ok (.getfield 32, 3) := by decide +kernel
theorem dX9_toHeap_44 : decode cX9_toHeap 44 = .ok (.iload_n 1, 1) := by decide +kernel
theorem dX9_toHeap_45 : decode cX9_toHeap 45 = .ok (.iaload, 1) := by decide +kernel
theorem dX9_toHeap_46 : decode cX9_toHeap 46 = .ok (.if_icmp .ge 31, 3) := by decide +kernel
theorem dX9_toHeap_49 : decode cX9_toHeap 49 = .ok (.aload_n 0, 1) := by decide +kernel
theorem dX9_toHeap_50 : decode cX9_toHeap 50 = .ok (.getfield 48, 3) := by decide +kernel
theorem dX9_toHeap_53 : decode cX9_toHeap 53 = .ok (.bipush 16, 2) := by decide +kernel
theorem dX9_toHeap_55 : decode cX9_toHeap 55 = .ok (.iload_n 2, 1) := by decide +kernel
theorem dX9_toHeap_56 : decode cX9_toHeap 56 = .ok (.imul, 1) := by decide +kernel
theorem dX9_toHeap_57 : decode cX9_toHeap 57 = .ok (.iload_n 3, 1) := by decide +kernel
theorem dX9_toHeap_58 : decode cX9_toHeap 58 = .ok (.iadd, 1) := by decide +kernel
theorem dX9_toHeap_59 : decode cX9_toHeap 59 = .ok (.aload_n 0, 1) := by decide +kernel
theorem dX9_toHeap_60 : decode cX9_toHeap 60 = .ok (.getfield 29, 3) := by decide +kernel
theorem dX9_toHeap_63 : decode cX9_toHeap 63 = .ok (.bipush 34, 2) := by decide +kernel
theorem dX9_toHeap_65 : decode cX9_toHeap 65 = .ok (.iload_n 1, 1) := by decide +kernel
theorem dX9_toHeap_66 : decode cX9_toHeap 66 = .ok (.imul, 1) := by decide +kernel
theorem dX9_toHeap_67 : decode cX9_toHeap 67 = .ok (.iload_n 3, 1) := by decide +kernel
theorem dX9_toHeap_68 : decode cX9_toHeap 68 = .ok (.iadd, 1) := by decide +kernel
theorem dX9_toHeap_69 : decode cX9_toHeap 69 = .ok (.iaload, 1) := by decide +kernel
theorem dX9_toHeap_70 : decode cX9_toHeap 70 = .ok (.iastore, 1) := by decide +kernel
theorem dX9_toHeap_71 : decode cX9_toHeap 71 = .ok (.iinc 3 1, 3) := by decide +kernel
theorem dX9_toHeap_74 : decode cX9_toHeap 74 = .ok (.goto (-35), 3) := by decide +kernel
theorem dX9_toHeap_77 : decode cX9_toHeap 77 = .ok (.aload_n 0, 1) := by decide +kernel
theorem dX9_toHeap_78 : decode cX9_toHeap 78 = .ok (.dup, 1) := by decide +kernel
theorem dX9_toHeap_79 : decode cX9_toHeap 79 = .ok (.getfield 178, 3) := by decide +kernel
theorem dX9_toHeap_82 : decode cX9_toHeap 82 = .ok (.iconst 1, 1) := by decide +kernel
theorem dX9_toHeap_83 : decode cX9_toHeap 83 = .ok (.iadd, 1) := by decide +kernel
theorem dX9_toHeap_84 : decode cX9_toHeap 84 = .ok (.putfield 178, 3) := by decide +kernel
theorem dX9_toHeap_87 : decode cX9_toHeap 87 = .ok (.iload_n 2, 1) := by decide +kernel
theorem dX9_toHeap_88 : decode cX9_toHeap 88 = .ok (.ireturn, 1) := by decide +kernel
theorem dX9_fromHeap_0 : decode cX9_fromHeap 0 = .ok (.aload_n 0, 1) := by decide +kernel
theorem dX9_fromHeap_1 : decode cX9_fromHeap 1 = .ok (.getfield 32, 3) := by decide +kernel
theorem dX9_fromHeap_4 : decode cX9_fromHeap 4 = .ok (.iload_n 2, 1) := by decide +kernel
theorem dX9_fromHeap_5 : decode cX9_fromHeap 5 = .ok (.aload_n 0, 1) := by decide +kernel
theorem dX9_fromHeap_6 : decode cX9_fromHeap 6 = .ok (.getfield 51, 3) := by decide +kernel
theorem dX9_fromHeap_9 : decode cX9_fromHeap 9 = .ok (.iload_n 1, 1) := by decide +kernel
theorem dX9_fromHeap_10 : decode cX9_fromHeap 10 = .ok (.iaload, 1) := by decide +kernel
theorem dX9_fromHeap_11 : decode cX9_fromHeap 11 = .ok (.iastore, 1) := by decide +kernel
theorem dX9_fromHeap_12 : decode cX9_fromHeap 12 = .ok (.iconst 0, 1) := by decide +kernel
theorem dX9_fromHeap_13 : decode cX9_fromHeap 13 = .ok (.istore_n 3, 1) := by decide +kernel
theorem dX9_fromHeap_14 : decode cX9_fromHeap 14 = .ok (.iload_n 3, 1) := by decide +kernel
theorem dX9_fromHeap_15 : decode cX9_fromHeap 15 = .ok (.aload_n 0, 1) := by decide +kernel
theorem dX9_fromHeap_16 : decode cX9_fromHeap 16 = .ok (.getfield 51, 3) := by decide +kernel
theorem dX9_fromHeap_19 : decode cX9_fromHeap 19 = .ok (.iload_n 1, 1) := by decide +kernel
theorem dX9_fromHeap_20 : decode cX9_fromHeap 20 = .ok (.iaload, 1) := by decide +kernel
theorem dX9_fromHeap_21 : decode cX9_fromHeap 21 = .ok (.if_icmp .ge 31, 3) := by decide +kernel
theorem dX9_fromHeap_24 : decode cX9_fromHeap 24 = .ok (.aload_n 0, 1) := by decide +kernel
theorem dX9_fromHeap_25 : decode cX9_fromHeap 25 = .ok (.getfield 29, 3) := by decide +kernel
theorem dX9_fromHeap_28 : decode cX9_fromHeap 28 = .ok (.bipush 34, 2) := by decide +kernel
theorem dX9_fromHeap_30 : decode cX9_fromHeap 30 = .ok (.iload_n 2, 1) := by decide +kernel
theorem dX9_fromHeap_31 : decode cX9_fromHeap 31 = .ok (.imul, 1) := by decide +kernel
theorem dX9_fromHeap_32 : decode cX9_fromHeap 32 = .ok (.iload_n 3, 1) := by decide +kernel
theorem dX9_fromHeap_33 : decode cX9_fromHeap 33 = .ok (.iadd, 1) := by decide +kernel
theorem dX9_fromHeap_34 : decode cX9_fromHeap 34 = .ok (.aload_n 0, 1) := by decide +kernel
theorem dX9_fromHeap_35 : decode cX9_fromHeap 35 = .ok (.getfield 48, 3) := by decide +kernel
theorem dX9_fromHeap_38 : decode cX9_fromHeap 38 = .ok (.bipush 16, 2) := by decide +kernel
theorem dX9_fromHeap_40 : decode cX9_fromHeap 40 = .ok (.iload_n 1, 1) := by decide +kernel
theorem dX9_fromHeap_41 : decode cX9_fromHeap 41 = .ok (.imul, 1) := by decide +kernel
theorem dX9_fromHeap_42 : decode cX9_fromHeap 42 = .ok (.iload_n 3, 1) := by decide +kernel
theorem dX9_fromHeap_43 : decode cX9_fromHeap 43 = .ok (.iadd, 1) := by decide +kernel
theorem dX9_fromHeap_44 : decode cX9_fromHeap 44 = .ok (.iaload, 1) := by decide +kernel
theorem dX9_fromHeap_45 : decode cX9_fromHeap 45 = .ok (.iastore, 1) := by decide +kernel
theorem dX9_fromHeap_46 : decode cX9_fromHeap 46 = .ok (.iinc 3 1, 3) := by decide +kernel
theorem dX9_fromHeap_49 : decode cX9_fromHeap 49 = .ok (.goto (-35), 3) := by decide +kernel
theorem dX9_fromHeap_52 : decode cX9_fromHeap 52 = .ok (.return_, 1) := by decide +kernel
theorem dX9_grow_0 : decode cX9_grow 0 = .ok (.aload_n 0, 1) := by decide +kernel
theorem dX9_grow_1 : decode cX9_grow 1 = .ok (.getfield 185, 3) := by decide +kernel
theorem dX9_grow_4 : decode cX9_grow 4 = .ok (.aload_n 0, 1) := by decide +kernel
theorem dX9_grow_5 : decode cX9_grow 5 = .ok (.getfield 178, 3) := by decide +kernel
theorem dX9_grow_8 : decode cX9_grow 8 = .ok (.if_icmp .ge 93, 3) := by decide +kernel
theorem dX9_grow_11 : decode cX9_grow 11 = .ok (.aload_n 0, 1) := by decide +kernel
theorem dX9_grow_12 : decode cX9_grow 12 = .ok (.getfield 178, 3) := by decide +kernel
theorem dX9_grow_15 : decode cX9_grow 15 = .ok (.sipush 200, 3) := by decide +kernel
theorem dX9_grow_18 : decode cX9_grow 18 = .ok (.if_icmp .gt 83, 3) := by decide +kernel
theorem dX9_grow_21 : decode cX9_grow 21 = .ok (.aload_n 0, 1) := by decide +kernel
theorem dX9_grow_22 : decode cX9_grow 22 = .ok (.aload_n 0, 1) := by decide +kernel
theorem dX9_grow_23 : decode cX9_grow 23 = .ok (.getfield 185, 3) := by decide +kernel
theorem dX9_grow_26 : decode cX9_grow 26 = .ok (.bipush 9, 2) := by decide +kernel
theorem dX9_grow_28 : decode cX9_grow 28 = .ok (.invokevirtual 188, 3) := by decide +kernel
theorem dX9_grow_31 : decode cX9_grow 31 = .ok (.iconst 0, 1) := by decide +kernel
theorem dX9_grow_32 : decode cX9_grow 32 = .ok (.istore_n 1, 1) := by decide +kernel
theorem dX9_grow_33 : decode cX9_grow 33 = .ok (.iload_n 1, 1) := by decide +kernel
theorem dX9_grow_34 : decode cX9_grow 34 = .ok (.aload_n 0, 1) := by decide +kernel
theorem dX9_grow_35 : decode cX9_grow 35 = .ok (.getfield 19, 3) := by decide +kernel
theorem dX9_grow_38 : decode cX9_grow 38 = .ok (.if_icmp .ge 50, 3) := by decide +kernel
theorem dX9_grow_41 : decode cX9_grow 41 = .ok (.aload_n 0, 1) := by decide +kernel
theorem dX9_grow_42 : decode cX9_grow 42 = .ok (.getfield 54, 3) := by decide +kernel
theorem dX9_grow_45 : decode cX9_grow 45 = .ok (.iconst 4, 1) := by decide +kernel
theorem dX9_grow_46 : decode cX9_grow 46 = .ok (.aload_n 0, 1) := by decide +kernel
theorem dX9_grow_47 : decode cX9_grow 47 = .ok (.getfield 185, 3) := by decide +kernel
theorem dX9_grow_50 : decode cX9_grow 50 = .ok (.imul, 1) := by decide +kernel
theorem dX9_grow_51 : decode cX9_grow 51 = .ok (.iload_n 1, 1) := by decide +kernel
theorem dX9_grow_52 : decode cX9_grow 52 = .ok (.iadd, 1) := by decide +kernel
theorem dX9_grow_53 : decode cX9_grow 53 = .ok (.aload_n 0, 1) := by decide +kernel
theorem dX9_grow_54 : decode cX9_grow 54 = .ok (.bipush 9, 2) := by decide +kernel
theorem dX9_grow_56 : decode cX9_grow 56 = .ok (.iload_n 1, 1) := by decide +kernel
theorem dX9_grow_57 : decode cX9_grow 57 = .ok (.bipush 10, 2) := by decide +kernel
theorem dX9_grow_59 : decode cX9_grow 59 = .ok (.invokevirtual 171, 3) := by decide +kernel
theorem dX9_grow_62 : decode cX9_grow 62 = .ok (.iastore, 1) := by decide +kernel
theorem dX9_grow_63 : decode cX9_grow 63 = .ok (.aload_n 0, 1) := by decide +kernel
theorem dX9_grow_64 : decode cX9_grow 64 = .ok (.getfield 57, 3) := by decide +kernel
theorem dX9_grow_67 : decode cX9_grow 67 = .ok (.iconst 4, 1) := by decide +kernel
theorem dX9_grow_68 : decode cX9_grow 68 = .ok (.aload_n 0, 1) := by decide +kernel
theorem dX9_grow_69 : decode cX9_grow 69 = .ok (.getfield 185, 3) := by decide +kernel
theorem dX9_grow_72 : decode cX9_grow 72 = .ok (.imul, 1) := by decide +kernel
theorem dX9_grow_73 : decode cX9_grow 73 = .ok (.iload_n 1, 1) := by decide +kernel
theorem dX9_grow_74 : decode cX9_grow 74 = .ok (.iadd, 1) := by decide +kernel
theorem dX9_grow_75 : decode cX9_grow 75 = .ok (.aload_n 0, 1) := by decide +kernel
theorem dX9_grow_76 : decode cX9_grow 76 = .ok (.bipush 10, 2) := by decide +kernel
theorem dX9_grow_78 : decode cX9_grow 78 = .ok (.invokevirtual 191, 3) := by decide +kernel
theorem dX9_grow_81 : decode cX9_grow 81 = .ok (.iastore, 1) := by decide +kernel
theorem dX9_grow_82 : decode cX9_grow 82 = .ok (.iinc 1 1, 3) := by decide +kernel
theorem dX9_grow_85 : decode cX9_grow 85 = .ok (.goto (-52), 3) := by decide +kernel
theorem dX9_grow_88 : decode cX9_grow 88 = .ok (.aload_n 0, 1) := by decide +kernel
theorem dX9_grow_89 : decode cX9_grow 89 = .ok (.dup, 1) := by decide +kernel
theorem dX9_grow_90 : decode cX9_grow 90 = .ok (.getfield 185, 3) := by decide +kernel
theorem dX9_grow_93 : decode cX9_grow 93 = .ok (.iconst 1, 1) := by decide +kernel
theorem dX9_grow_94 : decode cX9_grow 94 = .ok (.iadd, 1) := by decide +kernel
theorem dX9_grow_95 : decode cX9_grow 95 = .ok (.putfield 185, 3) := by decide +kernel
theorem dX9_grow_98 : decode cX9_grow 98 = .ok (.goto (-98), 3) := by decide +kernel
theorem dX9_grow_101 : decode cX9_grow 101 = .ok (.aload_n 0, 1) := by decide +kernel
theorem dX9_grow_102 : decode cX9_grow 102 = .ok (.getfield 178, 3) := by decide +kernel
theorem dX9_grow_105 : decode cX9_grow 105 = .ok (.sipush 200, 3) := by decide +kernel
theorem dX9_grow_108 : decode cX9_grow 108 = .ok (.if_icmp .gt 7, 3) := by decide +kernel
theorem dX9_grow_111 : decode cX9_grow 111 = .ok (.iconst 1, 1) := by decide +kernel
theorem dX9_grow_112 : decode cX9_grow 112 = .ok (.goto 4, 3) := by decide +kernel
theorem dX9_grow_115 : decode cX9_grow 115 = .ok (.iconst 0, 1) := by decide +kernel
theorem dX9_grow_116 : decode cX9_grow 116 = .ok (.ireturn, 1) := by decide +kernel
theorem dX9_beginHeap_0 : decode cX9_beginHeap 0 = .ok (.aload_n 0, 1) := by decide +kernel
theorem dX9_beginHeap_1 : decode cX9_beginHeap 1 = .ok (.iconst 0, 1) := by decide +kernel
theorem dX9_beginHeap_2 : decode cX9_beginHeap 2 = .ok (.putfield 178, 3) := by decide +kernel
theorem dX9_beginHeap_5 : decode cX9_beginHeap 5 = .ok (.aload_n 0, 1) := by decide +kernel
theorem dX9_beginHeap_6 : decode cX9_beginHeap 6 = .ok (.iconst 0, 1) := by decide +kernel
theorem dX9_beginHeap_7 : decode cX9_beginHeap 7 = .ok (.putfield 185, 3) := by decide +kernel
theorem dX9_beginHeap_10 : decode cX9_beginHeap 10 = .ok (.return_, 1) := by decide +kernel
theorem dX9_isSameNow_0 : decode cX9_isSameNow 0 = .ok (.iconst 1, 1) := by decide +kernel
theorem dX9_isSameNow_1 : decode cX9_isSameNow 1 = .ok (.istore_n 3, 1) := by decide +kernel
theorem dX9_isSameNow_2 : decode cX9_isSameNow 2 = .ok (.iconst 0, 1) := by decide +kernel
theorem dX9_isSameNow_3 : decode cX9_isSameNow 3 = .ok (.istore 4, 2) := by decide +kernel
theorem dX9_isSameNow_5 : decode cX9_isSameNow 5 = .ok (.iload 4, 2) := by decide +kernel
theorem dX9_isSameNow_7 : decode cX9_isSameNow 7 = .ok (.aload_n 0, 1) := by decide +kernel
theorem dX9_isSameNow_8 : decode cX9_isSameNow 8 = .ok (.getfield 19, 3) := by decide +kernel
theorem dX9_isSameNow_11 : decode cX9_isSameNow 11 = .ok (.if_icmp .ge 79, 3) := by decide +kernel
theorem dX9_isSameNow_14 : decode cX9_isSameNow 14 = .ok (.iload_n 3, 1) := by decide +kernel
theorem dX9_isSameNow_15 : decode cX9_isSameNow 15 = .ok (.ifCond .eq 67, 3) := by decide +kernel
theorem dX9_isSameNow_18 : decode cX9_isSameNow 18 = .ok (.aload_n 0, 1) := by decide +kernel
theorem dX9_isSameNow_19 : decode cX9_isSameNow 19 = .ok (.getfield 54, 3) := by decide +kernel
theorem dX9_isSameNow_22 : decode cX9_isSameNow 22 = .ok (.iconst 4, 1) := by decide +kernel
theorem dX9_isSameNow_23 : decode cX9_isSameNow 23 = .ok (.iload_n 1, 1) := by decide +kernel
theorem dX9_isSameNow_24 : decode cX9_isSameNow 24 = .ok (.imul, 1) := by decide +kernel
theorem dX9_isSameNow_25 : decode cX9_isSameNow 25 = .ok (.iload 4, 2) := by decide +kernel
theorem dX9_isSameNow_27 : decode cX9_isSameNow 27 = .ok (.iadd, 1) := by decide +kernel
theorem dX9_isSameNow_28 : decode cX9_isSameNow 28 = .ok (.iaload, 1) := by decide +kernel
theorem dX9_isSameNow_29 : decode cX9_isSameNow 29 = .ok (.aload_n 0, 1) := by decide +kernel
theorem dX9_isSameNow_30 : decode cX9_isSameNow 30 = .ok (.getfield 54, 3) := by decide +kernel
theorem dX9_isSameNow_33 : decode cX9_isSameNow 33 = .ok (.iconst 4, 1) := by decide +kernel
theorem dX9_isSameNow_34 : decode cX9_isSameNow 34 = .ok (.iload_n 2, 1) := by decide +kernel
theorem dX9_isSameNow_35 : decode cX9_isSameNow 35 = .ok (.imul, 1) := by decide +kernel
theorem dX9_isSameNow_36 : decode cX9_isSameNow 36 = .ok (.iload 4, 2) := by decide +kernel
theorem dX9_isSameNow_38 : decode cX9_isSameNow 38 = .ok (.iadd, 1) := by decide +kernel
theorem dX9_isSameNow_39 : decode cX9_isSameNow 39 = .ok (.iaload, 1) := by decide +kernel
theorem dX9_isSameNow_40 : decode cX9_isSameNow 40 = .ok (.if_icmp .ne 42, 3) := by decide +kernel
theorem dX9_isSameNow_43 : decode cX9_isSameNow 43 = .ok (.aload_n 0, 1) := by decide +kernel
theorem dX9_isSameNow_44 : decode cX9_isSameNow 44 = .ok (.getfield 60, 3) := by decide +kernel
theorem dX9_isSameNow_47 : decode cX9_isSameNow 47 = .ok (.aload_n 0, 1) := by decide +kernel
theorem dX9_isSameNow_48 : decode cX9_isSameNow 48 = .ok (.getfield 57, 3) := by decide +kernel
theorem dX9_isSameNow_51 : decode cX9_isSameNow 51 = .ok (.iconst 4, 1) := by decide +kernel
theorem dX9_isSameNow_52 : decode cX9_isSameNow 52 = .ok (.iload_n 1, 1) := by decide +kernel
theorem dX9_isSameNow_53 : decode cX9_isSameNow 53 = .ok (.imul, 1) := by decide +kernel
theorem dX9_isSameNow_54 : decode cX9_isSameNow 54 = .ok (.iload 4, 2) := by decide +kernel
theorem dX9_isSameNow_56 : decode cX9_isSameNow 56 = .ok (.iadd, 1) := by decide +kernel
theorem dX9_isSameNow_57 : decode cX9_isSameNow 57 = .ok (.iaload, 1) := by decide +kernel
theorem dX9_isSameNow_58 : decode cX9_isSameNow 58 = .ok (.iaload, 1) := by decide +kernel
theorem dX9_isSameNow_59 : decode cX9_isSameNow 59 = .ok (.aload_n 0, 1) := by decide +kernel
theorem dX9_isSameNow_60 : decode cX9_isSameNow 60 = .ok (.getfield 60, 3) := by decide +kernel
theorem dX9_isSameNow_63 : decode cX9_isSameNow 63 = .ok (.aload_n 0, 1) := by decide +kernel
theorem dX9_isSameNow_64 : decode cX9_isSameNow 64 = .ok (.getfield 57, 3) := by decide +kernel
theorem dX9_isSameNow_67 : decode cX9_isSameNow 67 = .ok (.iconst 4, 1) := by decide +kernel
theorem dX9_isSameNow_68 : decode cX9_isSameNow 68 = .ok (.iload_n 2, 1) := by decide +kernel
theorem dX9_isSameNow_69 : decode cX9_isSameNow 69 = .ok (.imul, 1) := by decide +kernel
theorem dX9_isSameNow_70 : decode cX9_isSameNow 70 = .ok (.iload 4, 2) := by decide +kernel
theorem dX9_isSameNow_72 : decode cX9_isSameNow 72 = .ok (.iadd, 1) := by decide +kernel
theorem dX9_isSameNow_73 : decode cX9_isSameNow 73 = .ok (.iaload, 1) := by decide +kernel
theorem dX9_isSameNow_74 : decode cX9_isSameNow 74 = .ok (.iaload, 1) := by decide +kernel
theorem dX9_isSameNow_75 : decode cX9_isSameNow 75 = .ok (.if_icmp .ne 7, 3) := by decide +kernel
theorem dX9_isSameNow_78 : decode cX9_isSameNow 78 = .ok (.iconst 1, 1) := by decide +kernel
theorem dX9_isSameNow_79 : decode cX9_isSameNow 79 = .ok (.goto 4, 3) := by decide +kernel
theorem dX9_isSameNow_82 : decode cX9_isSameNow 82 = .ok (.iconst 0, 1) := by decide +kernel
theorem dX9_isSameNow_83 : decode cX9_isSameNow 83 = .ok (.istore_n 3, 1) := by decide +kernel
theorem dX9_isSameNow_84 : decode cX9_isSameNow 84 = .ok (.iinc 4 1, 3) := by decide +kernel
theorem dX9_isSameNow_87 : decode cX9_isSameNow 87 = .ok (.goto (-82), 3) := by decide +kernel
theorem dX9_isSameNow_90 : decode cX9_isSameNow 90 = .ok (.iload_n 3, 1) := by decide +kernel
theorem dX9_isSameNow_91 : decode cX9_isSameNow 91 = .ok (.ireturn, 1) := by decide +kernel
theorem dX9_partOnce_0 : decode cX9_partOnce 0 = .ok (.iconst 0, 1) := by decide +kernel
theorem dX9_partOnce_1 : decode cX9_partOnce 1 = .ok (.istore_n 1, 1) := by decide +kernel
theorem dX9_partOnce_2 : decode cX9_partOnce 2 = .ok (.iconst 0, 1) := by decide +kernel
theorem dX9_partOnce_3 : decode cX9_partOnce 3 = .ok (.istore_n 2, 1) := by decide +kernel
theorem dX9_partOnce_4 : decode cX9_partOnce 4 = .ok (.iload_n 2, 1) := by decide +kernel
theorem dX9_partOnce_5 : decode cX9_partOnce 5 = .ok (.aload_n 0, 1) := by decide +kernel
theorem dX9_partOnce_6 : decode cX9_partOnce 6 = .ok (.getfield 178, 3) := by decide +kernel
theorem dX9_partOnce_9 : decode cX9_partOnce 9 = .ok (.if_icmp .ge 82, 3) := by decide +kernel
theorem dX9_partOnce_12 : decode cX9_partOnce 12 = .ok (.aload_n 0, 1) := by decide +kernel
theorem dX9_partOnce_13 : decode cX9_partOnce 13 = .ok (.getfield 63, 3) := by decide +kernel
theorem dX9_partOnce_16 : decode cX9_partOnce 16 = .ok (.iload_n 2, 1) := by decide +kernel
theorem dX9_partOnce_17 : decode cX9_partOnce 17 = .ok (.iconst (-1), 1) := by decide +kernel
theorem dX9_partOnce_18 : decode cX9_partOnce 18 = .ok (.iastore, 1) := by decide +kernel
theorem dX9_partOnce_19 : decode cX9_partOnce 19 = .ok (.iconst 0, 1) := by decide +kernel
theorem dX9_partOnce_20 : decode cX9_partOnce 20 = .ok (.istore_n 3, 1) := by decide +kernel
theorem dX9_partOnce_21 : decode cX9_partOnce 21 = .ok (.iload_n 3, 1) := by decide +kernel
theorem dX9_partOnce_22 : decode cX9_partOnce 22 = .ok (.iload_n 2, 1) := by decide +kernel
theorem dX9_partOnce_23 : decode cX9_partOnce 23 = .ok (.if_icmp .ge 43, 3) := by decide +kernel
theorem dX9_partOnce_26 : decode cX9_partOnce 26 = .ok (.aload_n 0, 1) := by decide +kernel
theorem dX9_partOnce_27 : decode cX9_partOnce 27 = .ok (.getfield 63, 3) := by decide +kernel
theorem dX9_partOnce_30 : decode cX9_partOnce 30 = .ok (.iload_n 2, 1) := by decide +kernel
theorem dX9_partOnce_31 : decode cX9_partOnce 31 = .ok (.iaload, 1) := by decide +kernel
theorem dX9_partOnce_32 : decode cX9_partOnce 32 = .ok (.ifCond .ge 34, 3) := by decide +kernel
theorem dX9_partOnce_35 : decode cX9_partOnce 35 = .ok (.aload_n 0, 1) := by decide +kernel
theorem dX9_partOnce_36 : decode cX9_partOnce 36 = .ok (.getfield 63, 3) := by decide +kernel
theorem dX9_partOnce_39 : decode cX9_partOnce 39 = .ok (.iload_n 2, 1) := by decide +kernel
theorem dX9_partOnce_40 : decode cX9_partOnce 40 = .ok (.aload_n 0, 1) := by decide +kernel
theorem dX9_partOnce_41 : decode cX9_partOnce 41 = .ok (.iload_n 3, 1) := by decide +kernel
theorem dX9_partOnce_42 : decode cX9_partOnce 42 = .ok (.iload_n 2, 1) := by decide +kernel
theorem dX9_partOnce_43 : decode cX9_partOnce 43 = .ok (.invokevirtual 194, 3) := by decide +kernel
theorem dX9_partOnce_46 : decode cX9_partOnce 46 = .ok (.ifCond .eq 12, 3) := by decide +kernel
theorem dX9_partOnce_49 : decode cX9_partOnce 49 = .ok (.aload_n 0, 1) := by decide +kernel
theorem dX9_partOnce_50 : decode cX9_partOnce 50 = .ok (.getfield 63, 3) := by decide +kernel
theorem dX9_partOnce_53 : decode cX9_partOnce 53 = .ok (.iload_n 3, 1) := by decide +kernel
theorem dX9_partOnce_54 : decode cX9_partOnce 54 = .ok (.iaload, 1) := by decide +kernel
theorem dX9_partOnce_55 : decode cX9_partOnce 55 = .ok (.goto 4, 3) := by decide +kernel
theorem dX9_partOnce_58 : decode cX9_partOnce 58 = .ok (.iconst (-1), 1) := by decide +kernel
theorem dX9_partOnce_59 : decode cX9_partOnce 59 = .ok (.iastore, 1) := by decide +kernel
theorem dX9_partOnce_60 : decode cX9_partOnce 60 = .ok (.iinc 3 1, 3) := by decide +kernel
theorem dX9_partOnce_63 : decode cX9_partOnce 63 = .ok (.goto (-42), 3) := by decide +kernel
theorem dX9_partOnce_66 : decode cX9_partOnce 66 = .ok (.aload_n 0, 1) := by decide +kernel
theorem dX9_partOnce_67 : decode cX9_partOnce 67 = .ok (.getfield 63, 3) := by decide +kernel
theorem dX9_partOnce_70 : decode cX9_partOnce 70 = .ok (.iload_n 2, 1) := by decide +kernel
theorem dX9_partOnce_71 : decode cX9_partOnce 71 = .ok (.iaload, 1) := by decide +kernel
theorem dX9_partOnce_72 : decode cX9_partOnce 72 = .ok (.ifCond .ge 13, 3) := by decide +kernel
theorem dX9_partOnce_75 : decode cX9_partOnce 75 = .ok (.aload_n 0, 1) := by decide +kernel
theorem dX9_partOnce_76 : decode cX9_partOnce 76 = .ok (.getfield 63, 3) := by decide +kernel
theorem dX9_partOnce_79 : decode cX9_partOnce 79 = .ok (.iload_n 2, 1) := by decide +kernel
theorem dX9_partOnce_80 : decode cX9_partOnce 80 = .ok (.iload_n 1, 1) := by decide +kernel
theorem dX9_partOnce_81 : decode cX9_partOnce 81 = .ok (.iastore, 1) := by decide +kernel
theorem dX9_partOnce_82 : decode cX9_partOnce 82 = .ok (.iinc 1 1, 3) := by decide +kernel
theorem dX9_partOnce_85 : decode cX9_partOnce 85 = .ok (.iinc 2 1, 3) := by decide +kernel
theorem dX9_partOnce_88 : decode cX9_partOnce 88 = .ok (.goto (-84), 3) := by decide +kernel
theorem dX9_partOnce_91 : decode cX9_partOnce 91 = .ok (.iconst 0, 1) := by decide +kernel
theorem dX9_partOnce_92 : decode cX9_partOnce 92 = .ok (.istore_n 2, 1) := by decide +kernel
theorem dX9_partOnce_93 : decode cX9_partOnce 93 = .ok (.iload_n 2, 1) := by decide +kernel
theorem dX9_partOnce_94 : decode cX9_partOnce 94 = .ok (.aload_n 0, 1) := by decide +kernel
theorem dX9_partOnce_95 : decode cX9_partOnce 95 = .ok (.getfield 178, 3) := by decide +kernel
theorem dX9_partOnce_98 : decode cX9_partOnce 98 = .ok (.if_icmp .ge 21, 3) := by decide +kernel
theorem dX9_partOnce_101 : decode cX9_partOnce 101 = .ok (.aload_n 0, 1) := by decide +kernel
theorem dX9_partOnce_102 : decode cX9_partOnce 102 = .ok (.getfield 60, 3) := by decide +kernel
theorem dX9_partOnce_105 : decode cX9_partOnce 105 = .ok (.iload_n 2, 1) := by decide +kernel
theorem dX9_partOnce_106 : decode cX9_partOnce 106 = .ok (.aload_n 0, 1) := by decide +kernel
theorem dX9_partOnce_107 : decode cX9_partOnce 107 = .ok (.getfield 63, 3) := by decide +kernel
theorem dX9_partOnce_110 : decode cX9_partOnce 110 = .ok (.iload_n 2, 1) := by decide +kernel
theorem dX9_partOnce_111 : decode cX9_partOnce 111 = .ok (.iaload, 1) := by decide +kernel
theorem dX9_partOnce_112 : decode cX9_partOnce 112 = .ok (.iastore, 1) := by decide +kernel
theorem dX9_partOnce_113 : decode cX9_partOnce 113 = .ok (.iinc 2 1, 3) := by decide +kernel
theorem dX9_partOnce_116 : decode cX9_partOnce 116 = .ok (.goto (-23), 3) := by decide +kernel
theorem dX9_partOnce_119 : decode cX9_partOnce 119 = .ok (.iload_n 1, 1) := by decide +kernel
theorem dX9_partOnce_120 : decode cX9_partOnce 120 = .ok (.ireturn, 1) := by decide +kernel
theorem dX9_partAll_0 : decode cX9_partAll 0 = .ok (.iconst 0, 1) := by decide +kernel
theorem dX9_partAll_1 : decode cX9_partAll 1 = .ok (.istore_n 1, 1) := by decide +kernel
theorem dX9_partAll_2 : decode cX9_partAll 2 = .ok (.iload_n 1, 1) := by decide +kernel
theorem dX9_partAll_3 : decode cX9_partAll 3 = .ok (.aload_n 0, 1) := by decide +kernel
theorem dX9_partAll_4 : decode cX9_partAll 4 = .ok (.getfield 178, 3) := by decide +kernel
theorem dX9_partAll_7 : decode cX9_partAll 7 = .ok (.if_icmp .ge 23, 3) := by decide +kernel
theorem dX9_partAll_10 : decode cX9_partAll 10 = .ok (.aload_n 0, 1) := by decide +kernel
theorem dX9_partAll_11 : decode cX9_partAll 11 = .ok (.getfield 60, 3) := by decide +kernel
theorem dX9_partAll_14 : decode cX9_partAll 14 = .ok (.iload_n 1, 1) := by decide +kernel
theorem dX9_partAll_15 : decode cX9_partAll 15 = .ok (.iconst 0, 1) := by decide +kernel
theorem dX9_partAll_16 : decode cX9_partAll 16 = .ok (.iastore, 1) := by decide +kernel
theorem dX9_partAll_17 : decode cX9_partAll 17 = .ok (.aload_n 0, 1) := by decide +kernel
theorem dX9_partAll_18 : decode cX9_partAll 18 = .ok (.getfield 66, 3) := by decide +kernel
theorem dX9_partAll_21 : decode cX9_partAll 21 = .ok (.iload_n 1, 1) := by decide +kernel
theorem dX9_partAll_22 : decode cX9_partAll 22 = .ok (.iconst 0, 1) := by decide +kernel
theorem dX9_partAll_23 : decode cX9_partAll 23 = .ok (.iastore, 1) := by decide +kernel
theorem dX9_partAll_24 : decode cX9_partAll 24 = .ok (.iinc 1 1, 3) := by decide +kernel
theorem dX9_partAll_27 : decode cX9_partAll 27 = .ok (.goto (-25), 3) := by decide +kernel
theorem dX9_partAll_30 : decode cX9_partAll 30 = .ok (.aload_n 0, 1) := by decide +kernel
theorem dX9_partAll_31 : decode cX9_partAll 31 = .ok (.getfield 178, 3) := by decide +kernel
theorem dX9_partAll_34 : decode cX9_partAll 34 = .ok (.ifCond .ne 7, 3) := by decide +kernel
theorem dX9_partAll_37 : decode cX9_partAll 37 = .ok (.iconst 0, 1) := by decide +kernel
theorem dX9_partAll_38 : decode cX9_partAll 38 = .ok (.goto 4, 3) := by decide +kernel
theorem dX9_partAll_41 : decode cX9_partAll 41 = .ok (.iconst 1, 1) := by decide +kernel
theorem dX9_partAll_42 : decode cX9_partAll 42 = .ok (.istore_n 1, 1) := by decide +kernel
theorem dX9_partAll_43 : decode cX9_partAll 43 = .ok (.iconst 1, 1) := by decide +kernel
theorem dX9_partAll_44 : decode cX9_partAll 44 = .ok (.istore_n 2, 1) := by decide +kernel
theorem dX9_partAll_45 : decode cX9_partAll 45 = .ok (.iconst 1, 1) := by decide +kernel
theorem dX9_partAll_46 : decode cX9_partAll 46 = .ok (.istore_n 3, 1) := by decide +kernel
theorem dX9_partAll_47 : decode cX9_partAll 47 = .ok (.iload_n 2, 1) := by decide +kernel
theorem dX9_partAll_48 : decode cX9_partAll 48 = .ok (.ifCond .eq 80, 3) := by decide +kernel
theorem dX9_partAll_51 : decode cX9_partAll 51 = .ok (.aload_n 0, 1) := by decide +kernel
theorem dX9_partAll_52 : decode cX9_partAll 52 = .ok (.invokevirtual 197, 3) := by decide +kernel
theorem dX9_partAll_55 : decode cX9_partAll 55 = .ok (.istore 4, 2) := by decide +kernel
theorem dX9_partAll_57 : decode cX9_partAll 57 = .ok (.iload 4, 2) := by decide +kernel
theorem dX9_partAll_59 : decode cX9_partAll 59 = .ok (.iload_n 1, 1) := by decide +kernel
theorem dX9_partAll_60 : decode cX9_partAll 60 = .ok (.if_icmp .gt 9, 3) := by decide +kernel
theorem dX9_partAll_63 : decode cX9_partAll 63 = .ok (.iload_n 3, 1) := by decide +kernel
theorem dX9_partAll_64 : decode cX9_partAll 64 = .ok (.bipush 14, 2) := by decide +kernel
theorem dX9_partAll_66 : decode cX9_partAll 66 = .ok (.if_icmp .gt 7, 3) := by decide +kernel
theorem dX9_partAll_69 : decode cX9_partAll 69 = .ok (.iconst 1, 1) := by decide +kernel
theorem dX9_partAll_70 : decode cX9_partAll 70 = .ok (.goto 4, 3) := by decide +kernel
theorem dX9_partAll_73 : decode cX9_partAll 73 = .ok (.iconst 0, 1) := by decide +kernel
theorem dX9_partAll_74 : decode cX9_partAll 74 = .ok (.istore_n 2, 1) := by decide +kernel
theorem dX9_partAll_75 : decode cX9_partAll 75 = .ok (.iload 4, 2) := by decide +kernel
theorem dX9_partAll_77 : decode cX9_partAll 77 = .ok (.istore_n 1, 1) := by decide +kernel
theorem dX9_partAll_78 : decode cX9_partAll 78 = .ok (.iconst 0, 1) := by decide +kernel
theorem dX9_partAll_79 : decode cX9_partAll 79 = .ok (.istore 5, 2) := by decide +kernel
theorem dX9_partAll_81 : decode cX9_partAll 81 = .ok (.iload 5, 2) := by decide +kernel
theorem dX9_partAll_83 : decode cX9_partAll 83 = .ok (.aload_n 0, 1) := by decide +kernel
theorem dX9_partAll_84 : decode cX9_partAll 84 = .ok (.getfield 178, 3) := by decide +kernel
theorem dX9_partAll_87 : decode cX9_partAll 87 = .ok (.if_icmp .ge 35, 3) := by decide +kernel
theorem dX9_partAll_90 : decode cX9_partAll 90 = .ok (.iload_n 3, 1) := by decide +kernel
theorem dX9_partAll_91 : decode cX9_partAll 91 = .ok (.bipush 14, 2) := by decide +kernel
theorem dX9_partAll_93 : decode cX9_partAll 93 = .ok (.if_icmp .gt 29, 3) := by decide +kernel
theorem dX9_partAll_96 : decode cX9_partAll 96 = .ok (.aload_n 0, 1) := by decide +kernel
theorem dX9_partAll_97 : decode cX9_partAll 97 = .ok (.getfield 66, 3) := by decide +kernel
theorem dX9_partAll_100 : decode cX9_partAll 100 = .ok (.sipush 201, 3) := by decide +kernel
theorem dX9_partAll_103 : decode cX9_partAll 103 = .ok (.iload_n 3, 1) := by decide +kernel
theorem dX9_partAll_104 : decode cX9_partAll 104 = .ok (.imul, 1) := by decide +kernel
theorem dX9_partAll_105 : decode cX9_partAll 105 = .ok (.iload 5, 2) := by decide +kernel
theorem dX9_partAll_107 : decode cX9_partAll 107 = .ok (.iadd, 1) := by decide +kernel
theorem dX9_partAll_108 : decode cX9_partAll 108 = .ok (.aload_n 0, 1) := by decide +kernel
theorem dX9_partAll_109 : decode cX9_partAll 109 = .ok (.getfield 60, 3) := by decide +kernel
theorem dX9_partAll_112 : decode cX9_partAll 112 = .ok (.iload 5, 2) := by decide +kernel
theorem dX9_partAll_114 : decode cX9_partAll 114 = .ok (.iaload, 1) := by decide +kernel
theorem dX9_partAll_115 : decode cX9_partAll 115 = .ok (.iastore, 1) := by decide +kernel
theorem dX9_partAll_116 : decode cX9_partAll 116 = .ok (.iinc 5 1, 3) := by decide +kernel
theorem dX9_partAll_119 : decode cX9_partAll 119 = .ok (.goto (-38), 3) := by decide +kernel
theorem dX9_partAll_122 : decode cX9_partAll 122 = .ok (.iinc 3 1, 3) := by decide +kernel
theorem dX9_partAll_125 : decode cX9_partAll 125 = .ok (.goto (-78), 3) := by decide +kernel
theorem dX9_partAll_128 : decode cX9_partAll 128 = .ok (.iload_n 1, 1) := by decide +kernel
theorem dX9_partAll_129 : decode cX9_partAll 129 = .ok (.ireturn, 1) := by decide +kernel
theorem dX9_takeTwo_0 : decode cX9_takeTwo 0 = .ok (.iload_n 1, 1) := by decide +kernel
theorem dX9_takeTwo_1 : decode cX9_takeTwo 1 = .ok (.invokestatic 137, 3) := by decide +kernel
theorem dX9_takeTwo_4 : decode cX9_takeTwo 4 = .ok (.ifCond .eq 10, 3) := by decide +kernel
theorem dX9_takeTwo_7 : decode cX9_takeTwo 7 = .ok (.iload_n 2, 1) := by decide +kernel
theorem dX9_takeTwo_8 : decode cX9_takeTwo 8 = .ok (.invokestatic 137, 3) := by decide +kernel
theorem dX9_takeTwo_11 : decode cX9_takeTwo 11 = .ok (.ifCond .ne 5, 3) := by decide +kernel
theorem dX9_takeTwo_14 : decode cX9_takeTwo 14 = .ok (.iconst (-1), 1) := by decide +kernel
theorem dX9_takeTwo_15 : decode cX9_takeTwo 15 = .ok (.ireturn, 1) := by decide +kernel
theorem dX9_takeTwo_16 : decode cX9_takeTwo 16 = .ok (.aload_n 0, 1) := by decide +kernel
theorem dX9_takeTwo_17 : decode cX9_takeTwo 17 = .ok (.invokevirtual 133, 3) := by decide +kernel
theorem dX9_takeTwo_20 : decode cX9_takeTwo 20 = .ok (.ifCond .ne 6, 3) := by decide +kernel
theorem dX9_takeTwo_23 : decode cX9_takeTwo 23 = .ok (.bipush (-5), 2) := by decide +kernel
theorem dX9_takeTwo_25 : decode cX9_takeTwo 25 = .ok (.ireturn, 1) := by decide +kernel
theorem dX9_takeTwo_26 : decode cX9_takeTwo 26 = .ok (.aload_n 0, 1) := by decide +kernel
theorem dX9_takeTwo_27 : decode cX9_takeTwo 27 = .ok (.invokevirtual 200, 3) := by decide +kernel
theorem dX9_takeTwo_30 : decode cX9_takeTwo 30 = .ok (.aload_n 0, 1) := by decide +kernel
theorem dX9_takeTwo_31 : decode cX9_takeTwo 31 = .ok (.aload_n 0, 1) := by decide +kernel
theorem dX9_takeTwo_32 : decode cX9_takeTwo 32 = .ok (.iload_n 1, 1) := by decide +kernel
theorem dX9_takeTwo_33 : decode cX9_takeTwo 33 = .ok (.invokevirtual 191, 3) := by decide +kernel
theorem dX9_takeTwo_36 : decode cX9_takeTwo 36 = .ok (.putfield 203, 3) := by decide +kernel
theorem dX9_takeTwo_39 : decode cX9_takeTwo 39 = .ok (.aload_n 0, 1) := by decide +kernel
theorem dX9_takeTwo_40 : decode cX9_takeTwo 40 = .ok (.aload_n 0, 1) := by decide +kernel
theorem dX9_takeTwo_41 : decode cX9_takeTwo 41 = .ok (.iload_n 2, 1) := by decide +kernel
theorem dX9_takeTwo_42 : decode cX9_takeTwo 42 = .ok (.invokevirtual 191, 3) := by decide +kernel
theorem dX9_takeTwo_45 : decode cX9_takeTwo 45 = .ok (.putfield 206, 3) := by decide +kernel
theorem dX9_takeTwo_48 : decode cX9_takeTwo 48 = .ok (.aload_n 0, 1) := by decide +kernel
theorem dX9_takeTwo_49 : decode cX9_takeTwo 49 = .ok (.invokevirtual 209, 3) := by decide +kernel
theorem dX9_takeTwo_52 : decode cX9_takeTwo 52 = .ok (.ifCond .ne 6, 3) := by decide +kernel
theorem dX9_takeTwo_55 : decode cX9_takeTwo 55 = .ok (.bipush (-7), 2) := by decide +kernel
theorem dX9_takeTwo_57 : decode cX9_takeTwo 57 = .ok (.ireturn, 1) := by decide +kernel
theorem dX9_takeTwo_58 : decode cX9_takeTwo 58 = .ok (.aload_n 0, 1) := by decide +kernel
theorem dX9_takeTwo_59 : decode cX9_takeTwo 59 = .ok (.invokevirtual 212, 3) := by decide +kernel
theorem dX9_takeTwo_62 : decode cX9_takeTwo 62 = .ok (.istore_n 3, 1) := by decide +kernel
theorem dX9_takeTwo_63 : decode cX9_takeTwo 63 = .ok (.iconst 0, 1) := by decide +kernel
theorem dX9_takeTwo_64 : decode cX9_takeTwo 64 = .ok (.ireturn, 1) := by decide +kernel
theorem dX9_same_0 : decode cX9_same 0 = .ok (.aload_n 0, 1) := by decide +kernel
theorem dX9_same_1 : decode cX9_same 1 = .ok (.iload_n 1, 1) := by decide +kernel
theorem dX9_same_2 : decode cX9_same 2 = .ok (.iload_n 2, 1) := by decide +kernel
theorem dX9_same_3 : decode cX9_same 3 = .ok (.invokevirtual 215, 3) := by decide +kernel
theorem dX9_same_6 : decode cX9_same 6 = .ok (.istore_n 3, 1) := by decide +kernel
theorem dX9_same_7 : decode cX9_same 7 = .ok (.iload_n 3, 1) := by decide +kernel
theorem dX9_same_8 : decode cX9_same 8 = .ok (.ifCond .eq 7, 3) := by decide +kernel
theorem dX9_same_11 : decode cX9_same 11 = .ok (.iload_n 3, 1) := by decide +kernel
theorem dX9_same_12 : decode cX9_same 12 = .ok (.goto 29, 3) := by decide +kernel
theorem dX9_same_15 : decode cX9_same 15 = .ok (.aload_n 0, 1) := by decide +kernel
theorem dX9_same_16 : decode cX9_same 16 = .ok (.getfield 60, 3) := by decide +kernel
theorem dX9_same_19 : decode cX9_same 19 = .ok (.aload_n 0, 1) := by decide +kernel
theorem dX9_same_20 : decode cX9_same 20 = .ok (.getfield 203, 3) := by decide +kernel
theorem dX9_same_23 : decode cX9_same 23 = .ok (.iaload, 1) := by decide +kernel
theorem dX9_same_24 : decode cX9_same 24 = .ok (.aload_n 0, 1) := by decide +kernel
theorem dX9_same_25 : decode cX9_same 25 = .ok (.getfield 60, 3) := by decide +kernel
theorem dX9_same_28 : decode cX9_same 28 = .ok (.aload_n 0, 1) := by decide +kernel
theorem dX9_same_29 : decode cX9_same 29 = .ok (.getfield 206, 3) := by decide +kernel
theorem dX9_same_32 : decode cX9_same 32 = .ok (.iaload, 1) := by decide +kernel
theorem dX9_same_33 : decode cX9_same 33 = .ok (.if_icmp .ne 7, 3) := by decide +kernel
theorem dX9_same_36 : decode cX9_same 36 = .ok (.iconst 1, 1) := by decide +kernel
theorem dX9_same_37 : decode cX9_same 37 = .ok (.goto 4, 3) := by decide +kernel
theorem dX9_same_40 : decode cX9_same 40 = .ok (.iconst 0, 1) := by decide +kernel
theorem dX9_same_41 : decode cX9_same 41 = .ok (.ireturn, 1) := by decide +kernel
theorem dX9_apart_0 : decode cX9_apart 0 = .ok (.aload_n 0, 1) := by decide +kernel
theorem dX9_apart_1 : decode cX9_apart 1 = .ok (.iload_n 1, 1) := by decide +kernel
theorem dX9_apart_2 : decode cX9_apart 2 = .ok (.iload_n 2, 1) := by decide +kernel
theorem dX9_apart_3 : decode cX9_apart 3 = .ok (.invokevirtual 215, 3) := by decide +kernel
theorem dX9_apart_6 : decode cX9_apart 6 = .ok (.istore_n 3, 1) := by decide +kernel
theorem dX9_apart_7 : decode cX9_apart 7 = .ok (.iload_n 3, 1) := by decide +kernel
theorem dX9_apart_8 : decode cX9_apart 8 = .ok (.ifCond .eq 5, 3) := by decide +kernel
theorem dX9_apart_11 : decode cX9_apart 11 = .ok (.iload_n 3, 1) := by decide +kernel
theorem dX9_apart_12 : decode cX9_apart 12 = .ok (.ireturn, 1) := by decide +kernel
theorem dX9_apart_13 : decode cX9_apart 13 = .ok (.iconst 0, 1) := by decide +kernel
theorem dX9_apart_14 : decode cX9_apart 14 = .ok (.istore 4, 2) := by decide +kernel
theorem dX9_apart_16 : decode cX9_apart 16 = .ok (.iload 4, 2) := by decide +kernel
theorem dX9_apart_18 : decode cX9_apart 18 = .ok (.bipush 14, 2) := by decide +kernel
theorem dX9_apart_20 : decode cX9_apart 20 = .ok (.if_icmp .gt 44, 3) := by decide +kernel
theorem dX9_apart_23 : decode cX9_apart 23 = .ok (.aload_n 0, 1) := by decide +kernel
theorem dX9_apart_24 : decode cX9_apart 24 = .ok (.getfield 66, 3) := by decide +kernel
theorem dX9_apart_27 : decode cX9_apart 27 = .ok (.sipush 201, 3) := by decide +kernel
theorem dX9_apart_30 : decode cX9_apart 30 = .ok (.iload 4, 2) := by decide +kernel
theorem dX9_apart_32 : decode cX9_apart 32 = .ok (.imul, 1) := by decide +kernel
theorem dX9_apart_33 : decode cX9_apart 33 = .ok (.aload_n 0, 1) := by decide +kernel
theorem dX9_apart_34 : decode cX9_apart 34 = .ok (.getfield 203, 3) := by decide +kernel
theorem dX9_apart_37 : decode cX9_apart 37 = .ok (.iadd, 1) := by decide +kernel
theorem dX9_apart_38 : decode cX9_apart 38 = .ok (.iaload, 1) := by decide +kernel
theorem dX9_apart_39 : decode cX9_apart 39 = .ok (.aload_n 0, 1) := by decide +kernel
theorem dX9_apart_40 : decode cX9_apart 40 = .ok (.getfield 66, 3) := by decide +kernel
theorem dX9_apart_43 : decode cX9_apart 43 = .ok (.sipush 201, 3) := by decide +kernel
theorem dX9_apart_46 : decode cX9_apart 46 = .ok (.iload 4, 2) := by decide +kernel
theorem dX9_apart_48 : decode cX9_apart 48 = .ok (.imul, 1) := by decide +kernel
theorem dX9_apart_49 : decode cX9_apart 49 = .ok (.aload_n 0, 1) := by decide +kernel
theorem dX9_apart_50 : decode cX9_apart 50 = .ok (.getfield 206, 3) := by decide +kernel
theorem dX9_apart_53 : decode cX9_apart 53 = .ok (.iadd, 1) := by decide +kernel
theorem dX9_apart_54 : decode cX9_apart 54 = .ok (.iaload, 1) := by decide +kernel
theorem dX9_apart_55 : decode cX9_apart 55 = .ok (.if_icmp .ne 9, 3) := by decide +kernel
theorem dX9_apart_58 : decode cX9_apart 58 = .ok (.iinc 4 1, 3) := by decide +kernel
theorem dX9_apart_61 : decode cX9_apart 61 = .ok (.goto (-45), 3) := by decide +kernel
theorem dX9_apart_64 : decode cX9_apart 64 = .ok (.iload 4, 2) := by decide +kernel
theorem dX9_apart_66 : decode cX9_apart 66 = .ok (.bipush 14, 2) := by decide +kernel
theorem dX9_apart_68 : decode cX9_apart 68 = .ok (.if_icmp .le 6, 3) := by decide +kernel
theorem dX9_apart_71 : decode cX9_apart 71 = .ok (.bipush (-8), 2) := by decide +kernel
theorem dX9_apart_73 : decode cX9_apart 73 = .ok (.ireturn, 1) := by decide +kernel
theorem dX9_apart_74 : decode cX9_apart 74 = .ok (.aload_n 0, 1) := by decide +kernel
theorem dX9_apart_75 : decode cX9_apart 75 = .ok (.getfield 203, 3) := by decide +kernel
theorem dX9_apart_78 : decode cX9_apart 78 = .ok (.istore 5, 2) := by decide +kernel
theorem dX9_apart_80 : decode cX9_apart 80 = .ok (.aload_n 0, 1) := by decide +kernel
theorem dX9_apart_81 : decode cX9_apart 81 = .ok (.getfield 206, 3) := by decide +kernel
theorem dX9_apart_84 : decode cX9_apart 84 = .ok (.istore 6, 2) := by decide +kernel
theorem dX9_apart_86 : decode cX9_apart 86 = .ok (.iconst 1, 1) := by decide +kernel
theorem dX9_apart_87 : decode cX9_apart 87 = .ok (.istore 7, 2) := by decide +kernel
theorem dX9_apart_89 : decode cX9_apart 89 = .ok (.iload 4, 2) := by decide +kernel
theorem dX9_apart_91 : decode cX9_apart 91 = .ok (.istore 8, 2) := by decide +kernel
theorem dX9_apart_93 : decode cX9_apart 93 = .ok (.iload 8, 2) := by decide +kernel
theorem dX9_apart_95 : decode cX9_apart 95 = .ok (.ifCond .le 70, 3) := by decide +kernel
theorem dX9_apart_98 : decode cX9_apart 98 = .ok (.iconst 0, 1) := by decide +kernel
theorem dX9_apart_99 : decode cX9_apart 99 = .ok (.istore 9, 2) := by decide +kernel
theorem dX9_apart_101 : decode cX9_apart 101 = .ok (.aload_n 0, 1) := by decide +kernel
theorem dX9_apart_102 : decode cX9_apart 102 = .ok (.iload 5, 2) := by decide +kernel
theorem dX9_apart_104 : decode cX9_apart 104 = .ok (.iload 6, 2) := by decide +kernel
theorem dX9_apart_106 : decode cX9_apart 106 = .ok (.iload 9, 2) := by decide +kernel
theorem dX9_apart_108 : decode cX9_apart 108 = .ok (.iload 8, 2) := by decide +kernel
theorem dX9_apart_110 : decode cX9_apart 110 = .ok (.invokevirtual 219, 3) := by decide +kernel
theorem dX9_apart_113 : decode cX9_apart 113 = .ok (.ifCond .ne 9, 3) := by decide +kernel
theorem dX9_apart_116 : decode cX9_apart 116 = .ok (.iinc 9 1, 3) := by decide +kernel
theorem dX9_apart_119 : decode cX9_apart 119 = .ok (.goto (-18), 3) := by decide +kernel
theorem dX9_apart_122 : decode cX9_apart 122 = .ok (.iconst 4, 1) := by decide +kernel
theorem dX9_apart_123 : decode cX9_apart 123 = .ok (.iload 7, 2) := by decide +kernel
theorem dX9_apart_125 : decode cX9_apart 125 = .ok (.imul, 1) := by decide +kernel
theorem dX9_apart_126 : decode cX9_apart 126 = .ok (.iload 9, 2) := by decide +kernel
theorem dX9_apart_128 : decode cX9_apart 128 = .ok (.iadd, 1) := by decide +kernel
theorem dX9_apart_129 : decode cX9_apart 129 = .ok (.istore 7, 2) := by decide +kernel
theorem dX9_apart_131 : decode cX9_apart 131 = .ok (.aload_n 0, 1) := by decide +kernel
theorem dX9_apart_132 : decode cX9_apart 132 = .ok (.getfield 57, 3) := by decide +kernel
theorem dX9_apart_135 : decode cX9_apart 135 = .ok (.iconst 4, 1) := by decide +kernel
theorem dX9_apart_136 : decode cX9_apart 136 = .ok (.iload 5, 2) := by decide +kernel
theorem dX9_apart_138 : decode cX9_apart 138 = .ok (.imul, 1) := by decide +kernel
theorem dX9_apart_139 : decode cX9_apart 139 = .ok (.iload 9, 2) := by decide +kernel
theorem dX9_apart_141 : decode cX9_apart 141 = .ok (.iadd, 1) := by decide +kernel
theorem dX9_apart_142 : decode cX9_apart 142 = .ok (.iaload, 1) := by decide +kernel
theorem dX9_apart_143 : decode cX9_apart 143 = .ok (.istore 5, 2) := by decide +kernel
theorem dX9_apart_145 : decode cX9_apart 145 = .ok (.aload_n 0, 1) := by decide +kernel
theorem dX9_apart_146 : decode cX9_apart 146 = .ok (.getfield 57, 3) := by decide +kernel
theorem dX9_apart_149 : decode cX9_apart 149 = .ok (.iconst 4, 1) := by decide +kernel
theorem dX9_apart_150 : decode cX9_apart 150 = .ok (.iload 6, 2) := by decide +kernel
theorem dX9_apart_152 : decode cX9_apart 152 = .ok (.imul, 1) := by decide +kernel
theorem dX9_apart_153 : decode cX9_apart 153 = .ok (.iload 9, 2) := by decide +kernel
theorem dX9_apart_155 : decode cX9_apart 155 = .ok (.iadd, 1) := by decide +kernel
theorem dX9_apart_156 : decode cX9_apart 156 = .ok (.iaload, 1) := by decide +kernel
theorem dX9_apart_157 : decode cX9_apart 157 = .ok (.istore 6, 2) := by decide +kernel
theorem dX9_apart_159 : decode cX9_apart 159 = .ok (.iinc 8 (-1), 3) := by decide +kernel
theorem dX9_apart_162 : decode cX9_apart 162 = .ok (.goto (-69), 3) := by decide +kernel
theorem dX9_apart_165 : decode cX9_apart 165 = .ok (.iload 7, 2) := by decide +kernel
theorem dX9_apart_167 : decode cX9_apart 167 = .ok (.ireturn, 1) := by decide +kernel
theorem dX9_isParted_0 : decode cX9_isParted 0 = .ok (.aload_n 0, 1) := by decide +kernel
theorem dX9_isParted_1 : decode cX9_isParted 1 = .ok (.getfield 54, 3) := by decide +kernel
theorem dX9_isParted_4 : decode cX9_isParted 4 = .ok (.iconst 4, 1) := by decide +kernel
theorem dX9_isParted_5 : decode cX9_isParted 5 = .ok (.iload_n 1, 1) := by decide +kernel
theorem dX9_isParted_6 : decode cX9_isParted 6 = .ok (.imul, 1) := by decide +kernel
theorem dX9_isParted_7 : decode cX9_isParted 7 = .ok (.iload_n 3, 1) := by decide +kernel
theorem dX9_isParted_8 : decode cX9_isParted 8 = .ok (.iadd, 1) := by decide +kernel
theorem dX9_isParted_9 : decode cX9_isParted 9 = .ok (.iaload, 1) := by decide +kernel
theorem dX9_isParted_10 : decode cX9_isParted 10 = .ok (.aload_n 0, 1) := by decide +kernel
theorem dX9_isParted_11 : decode cX9_isParted 11 = .ok (.getfield 54, 3) := by decide +kernel
theorem dX9_isParted_14 : decode cX9_isParted 14 = .ok (.iconst 4, 1) := by decide +kernel
theorem dX9_isParted_15 : decode cX9_isParted 15 = .ok (.iload_n 2, 1) := by decide +kernel
theorem dX9_isParted_16 : decode cX9_isParted 16 = .ok (.imul, 1) := by decide +kernel
theorem dX9_isParted_17 : decode cX9_isParted 17 = .ok (.iload_n 3, 1) := by decide +kernel
theorem dX9_isParted_18 : decode cX9_isParted 18 = .ok (.iadd, 1) := by decide +kernel
theorem dX9_isParted_19 : decode cX9_isParted 19 = .ok (.iaload, 1) := by decide +kernel
theorem dX9_isParted_20 : decode cX9_isParted 20 = .ok (.if_icmp .eq 5, 3) := by decide +kernel
theorem dX9_isParted_23 : decode cX9_isParted 23 = .ok (.iconst 1, 1) := by decide +kernel
theorem dX9_isParted_24 : decode cX9_isParted 24 = .ok (.ireturn, 1) := by decide +kernel
theorem dX9_isParted_25 : decode cX9_isParted 25 = .ok (.sipush 201, 3) := by decide +kernel
theorem dX9_isParted_28 : decode cX9_isParted 28 = .ok (.iload 4, 2) := by decide +kernel
theorem dX9_isParted_30 : decode cX9_isParted 30 = .ok (.iconst 1, 1) := by decide +kernel
theorem dX9_isParted_31 : decode cX9_isParted 31 = .ok (.isub, 1) := by decide +kernel
theorem dX9_isParted_32 : decode cX9_isParted 32 = .ok (.imul, 1) := by decide +kernel
theorem dX9_isParted_33 : decode cX9_isParted 33 = .ok (.istore 5, 2) := by decide +kernel
theorem dX9_isParted_35 : decode cX9_isParted 35 = .ok (.aload_n 0, 1) := by decide +kernel
theorem dX9_isParted_36 : decode cX9_isParted 36 = .ok (.getfield 66, 3) := by decide +kernel
theorem dX9_isParted_39 : decode cX9_isParted 39 = .ok (.iload 5, 2) := by decide +kernel
theorem dX9_isParted_41 : decode cX9_isParted 41 = .ok (.aload_n 0, 1) := by decide +kernel
theorem dX9_isParted_42 : decode cX9_isParted 42 = .ok (.getfield 57, 3) := by decide +kernel
theorem dX9_isParted_45 : decode cX9_isParted 45 = .ok (.iconst 4, 1) := by decide +kernel
theorem dX9_isParted_46 : decode cX9_isParted 46 = .ok (.iload_n 1, 1) := by decide +kernel
theorem dX9_isParted_47 : decode cX9_isParted 47 = .ok (.imul, 1) := by decide +kernel
theorem dX9_isParted_48 : decode cX9_isParted 48 = .ok (.iload_n 3, 1) := by decide +kernel
theorem dX9_isParted_49 : decode cX9_isParted 49 = .ok (.iadd, 1) := by decide +kernel
theorem dX9_isParted_50 : decode cX9_isParted 50 = .ok (.iaload, 1) := by decide +kernel
theorem dX9_isParted_51 : decode cX9_isParted 51 = .ok (.iadd, 1) := by decide +kernel
theorem dX9_isParted_52 : decode cX9_isParted 52 = .ok (.iaload, 1) := by decide +kernel
theorem dX9_isParted_53 : decode cX9_isParted 53 = .ok (.aload_n 0, 1) := by decide +kernel
theorem dX9_isParted_54 : decode cX9_isParted 54 = .ok (.getfield 66, 3) := by decide +kernel
theorem dX9_isParted_57 : decode cX9_isParted 57 = .ok (.iload 5, 2) := by decide +kernel
theorem dX9_isParted_59 : decode cX9_isParted 59 = .ok (.aload_n 0, 1) := by decide +kernel
theorem dX9_isParted_60 : decode cX9_isParted 60 = .ok (.getfield 57, 3) := by decide +kernel
theorem dX9_isParted_63 : decode cX9_isParted 63 = .ok (.iconst 4, 1) := by decide +kernel
theorem dX9_isParted_64 : decode cX9_isParted 64 = .ok (.iload_n 2, 1) := by decide +kernel
theorem dX9_isParted_65 : decode cX9_isParted 65 = .ok (.imul, 1) := by decide +kernel
theorem dX9_isParted_66 : decode cX9_isParted 66 = .ok (.iload_n 3, 1) := by decide +kernel
theorem dX9_isParted_67 : decode cX9_isParted 67 = .ok (.iadd, 1) := by decide +kernel
theorem dX9_isParted_68 : decode cX9_isParted 68 = .ok (.iaload, 1) := by decide +kernel
theorem dX9_isParted_69 : decode cX9_isParted 69 = .ok (.iadd, 1) := by decide +kernel
theorem dX9_isParted_70 : decode cX9_isParted 70 = .ok (.iaload, 1) := by decide +kernel
theorem dX9_isParted_71 : decode cX9_isParted 71 = .ok (.if_icmp .eq 7, 3) := by decide +kernel
theorem dX9_isParted_74 : decode cX9_isParted 74 = .ok (.iconst 1, 1) := by decide +kernel
theorem dX9_isParted_75 : decode cX9_isParted 75 = .ok (.goto 4, 3) := by decide +kernel
theorem dX9_isParted_78 : decode cX9_isParted 78 = .ok (.iconst 0, 1) := by decide +kernel
theorem dX9_isParted_79 : decode cX9_isParted 79 = .ok (.ireturn, 1) := by decide +kernel
theorem dX9_heap_0 : decode cX9_heap 0 = .ok (.aload_n 0, 1) := by decide +kernel
theorem dX9_heap_1 : decode cX9_heap 1 = .ok (.iload_n 1, 1) := by decide +kernel
theorem dX9_heap_2 : decode cX9_heap 2 = .ok (.iload_n 1, 1) := by decide +kernel
theorem dX9_heap_3 : decode cX9_heap 3 = .ok (.invokevirtual 215, 3) := by decide +kernel
theorem dX9_heap_6 : decode cX9_heap 6 = .ok (.istore_n 2, 1) := by decide +kernel
theorem dX9_heap_7 : decode cX9_heap 7 = .ok (.iload_n 2, 1) := by decide +kernel
theorem dX9_heap_8 : decode cX9_heap 8 = .ok (.ifCond .eq 7, 3) := by decide +kernel
theorem dX9_heap_11 : decode cX9_heap 11 = .ok (.iload_n 2, 1) := by decide +kernel
theorem dX9_heap_12 : decode cX9_heap 12 = .ok (.goto 7, 3) := by decide +kernel
theorem dX9_heap_15 : decode cX9_heap 15 = .ok (.aload_n 0, 1) := by decide +kernel
theorem dX9_heap_16 : decode cX9_heap 16 = .ok (.getfield 178, 3) := by decide +kernel
theorem dX9_heap_19 : decode cX9_heap 19 = .ok (.ireturn, 1) := by decide +kernel
theorem dX9_least_0 : decode cX9_least 0 = .ok (.aload_n 0, 1) := by decide +kernel
theorem dX9_least_1 : decode cX9_least 1 = .ok (.iload_n 1, 1) := by decide +kernel
theorem dX9_least_2 : decode cX9_least 2 = .ok (.iload_n 1, 1) := by decide +kernel
theorem dX9_least_3 : decode cX9_least 3 = .ok (.invokevirtual 215, 3) := by decide +kernel
theorem dX9_least_6 : decode cX9_least 6 = .ok (.istore_n 2, 1) := by decide +kernel
theorem dX9_least_7 : decode cX9_least 7 = .ok (.iload_n 2, 1) := by decide +kernel
theorem dX9_least_8 : decode cX9_least 8 = .ok (.ifCond .eq 7, 3) := by decide +kernel
theorem dX9_least_11 : decode cX9_least 11 = .ok (.iload_n 2, 1) := by decide +kernel
theorem dX9_least_12 : decode cX9_least 12 = .ok (.goto 7, 3) := by decide +kernel
theorem dX9_least_15 : decode cX9_least 15 = .ok (.aload_n 0, 1) := by decide +kernel
theorem dX9_least_16 : decode cX9_least 16 = .ok (.invokevirtual 212, 3) := by decide +kernel
theorem dX9_least_19 : decode cX9_least 19 = .ok (.ireturn, 1) := by decide +kernel
theorem dX9_rowsOf_0 : decode cX9_rowsOf 0 = .ok (.iload_n 1, 1) := by decide +kernel
theorem dX9_rowsOf_1 : decode cX9_rowsOf 1 = .ok (.ifCond .ge 5, 3) := by decide +kernel
theorem dX9_rowsOf_4 : decode cX9_rowsOf 4 = .ok (.iconst (-1), 1) := by decide +kernel
theorem dX9_rowsOf_5 : decode cX9_rowsOf 5 = .ok (.ireturn, 1) := by decide +kernel
theorem dX9_rowsOf_6 : decode cX9_rowsOf 6 = .ok (.iconst 1, 1) := by decide +kernel
theorem dX9_rowsOf_7 : decode cX9_rowsOf 7 = .ok (.istore_n 3, 1) := by decide +kernel
theorem dX9_rowsOf_8 : decode cX9_rowsOf 8 = .ok (.iconst 0, 1) := by decide +kernel
theorem dX9_rowsOf_9 : decode cX9_rowsOf 9 = .ok (.istore 4, 2) := by decide +kernel
theorem dX9_rowsOf_11 : decode cX9_rowsOf 11 = .ok (.iload 4, 2) := by decide +kernel
theorem dX9_rowsOf_13 : decode cX9_rowsOf 13 = .ok (.iload_n 1, 1) := by decide +kernel
theorem dX9_rowsOf_14 : decode cX9_rowsOf 14 = .ok (.if_icmp .ge 21, 3) := by decide +kernel
theorem dX9_rowsOf_17 : decode cX9_rowsOf 17 = .ok (.iload_n 3, 1) := by decide +kernel
theorem dX9_rowsOf_18 : decode cX9_rowsOf 18 = .ok (.iload_n 2, 1) := by decide +kernel
theorem dX9_rowsOf_19 : decode cX9_rowsOf 19 = .ok (.if_icmp .gt 16, 3) := by decide +kernel
theorem dX9_rowsOf_22 : decode cX9_rowsOf 22 = .ok (.iload_n 3, 1) := by decide +kernel
theorem dX9_rowsOf_23 : decode cX9_rowsOf 23 = .ok (.aload_n 0, 1) := by decide +kernel
theorem dX9_rowsOf_24 : decode cX9_rowsOf 24 = .ok (.getfield 19, 3) := by decide +kernel
theorem dX9_rowsOf_27 : decode cX9_rowsOf 27 = .ok (.imul, 1) := by decide +kernel
theorem dX9_rowsOf_28 : decode cX9_rowsOf 28 = .ok (.istore_n 3, 1) := by decide +kernel
theorem dX9_rowsOf_29 : decode cX9_rowsOf 29 = .ok (.iinc 4 1, 3) := by decide +kernel
theorem dX9_rowsOf_32 : decode cX9_rowsOf 32 = .ok (.goto (-21), 3) := by decide +kernel
theorem dX9_rowsOf_35 : decode cX9_rowsOf 35 = .ok (.iload_n 3, 1) := by decide +kernel
theorem dX9_rowsOf_36 : decode cX9_rowsOf 36 = .ok (.iload_n 2, 1) := by decide +kernel
theorem dX9_rowsOf_37 : decode cX9_rowsOf 37 = .ok (.if_icmp .gt 7, 3) := by decide +kernel
theorem dX9_rowsOf_40 : decode cX9_rowsOf 40 = .ok (.iload_n 3, 1) := by decide +kernel
theorem dX9_rowsOf_41 : decode cX9_rowsOf 41 = .ok (.goto 4, 3) := by decide +kernel
theorem dX9_rowsOf_44 : decode cX9_rowsOf 44 = .ok (.iconst (-1), 1) := by decide +kernel
theorem dX9_rowsOf_45 : decode cX9_rowsOf 45 = .ok (.ireturn, 1) := by decide +kernel
theorem dX9_rowAt_0 : decode cX9_rowAt 0 = .ok (.aload_n 0, 1) := by decide +kernel
theorem dX9_rowAt_1 : decode cX9_rowAt 1 = .ok (.iload_n 2, 1) := by decide +kernel
theorem dX9_rowAt_2 : decode cX9_rowAt 2 = .ok (.putfield 156, 3) := by decide +kernel
theorem dX9_rowAt_5 : decode cX9_rowAt 5 = .ok (.iload_n 1, 1) := by decide +kernel
theorem dX9_rowAt_6 : decode cX9_rowAt 6 = .ok (.istore_n 3, 1) := by decide +kernel
theorem dX9_rowAt_7 : decode cX9_rowAt 7 = .ok (.iload_n 2, 1) := by decide +kernel
theorem dX9_rowAt_8 : decode cX9_rowAt 8 = .ok (.iconst 1, 1) := by decide +kernel
theorem dX9_rowAt_9 : decode cX9_rowAt 9 = .ok (.isub, 1) := by decide +kernel
theorem dX9_rowAt_10 : decode cX9_rowAt 10 = .ok (.istore 4, 2) := by decide +kernel
theorem dX9_rowAt_12 : decode cX9_rowAt 12 = .ok (.iload 4, 2) := by decide +kernel
theorem dX9_rowAt_14 : decode cX9_rowAt 14 = .ok (.ifCond .lt 29, 3) := by decide +kernel
theorem dX9_rowAt_17 : decode cX9_rowAt 17 = .ok (.aload_n 0, 1) := by decide +kernel
theorem dX9_rowAt_18 : decode cX9_rowAt 18 = .ok (.getfield 45, 3) := by decide +kernel
theorem dX9_rowAt_21 : decode cX9_rowAt 21 = .ok (.iload 4, 2) := by decide +kernel
theorem dX9_rowAt_23 : decode cX9_rowAt 23 = .ok (.iload_n 3, 1) := by decide +kernel
theorem dX9_rowAt_24 : decode cX9_rowAt 24 = .ok (.aload_n 0, 1) := by decide +kernel
theorem dX9_rowAt_25 : decode cX9_rowAt 25 = .ok (.getfield 19, 3) := by decide +kernel
theorem dX9_rowAt_28 : decode cX9_rowAt 28 = .ok (.irem, 1) := by decide +kernel
theorem dX9_rowAt_29 : decode cX9_rowAt 29 = .ok (.iastore, 1) := by decide +kernel
theorem dX9_rowAt_30 : decode cX9_rowAt 30 = .ok (.iload_n 3, 1) := by decide +kernel
theorem dX9_rowAt_31 : decode cX9_rowAt 31 = .ok (.aload_n 0, 1) := by decide +kernel
theorem dX9_rowAt_32 : decode cX9_rowAt 32 = .ok (.getfield 19, 3) := by decide +kernel
theorem dX9_rowAt_35 : decode cX9_rowAt 35 = .ok (.idiv, 1) := by decide +kernel
theorem dX9_rowAt_36 : decode cX9_rowAt 36 = .ok (.istore_n 3, 1) := by decide +kernel
theorem dX9_rowAt_37 : decode cX9_rowAt 37 = .ok (.iinc 4 (-1), 3) := by decide +kernel
theorem dX9_rowAt_40 : decode cX9_rowAt 40 = .ok (.goto (-28), 3) := by decide +kernel
theorem dX9_rowAt_43 : decode cX9_rowAt 43 = .ok (.return_, 1) := by decide +kernel
theorem dX9_placeNow_0 : decode cX9_placeNow 0 = .ok (.iconst 0, 1) := by decide +kernel
theorem dX9_placeNow_1 : decode cX9_placeNow 1 = .ok (.istore_n 1, 1) := by decide +kernel
theorem dX9_placeNow_2 : decode cX9_placeNow 2 = .ok (.iconst 0, 1) := by decide +kernel
theorem dX9_placeNow_3 : decode cX9_placeNow 3 = .ok (.istore_n 2, 1) := by decide +kernel
theorem dX9_placeNow_4 : decode cX9_placeNow 4 = .ok (.iload_n 2, 1) := by decide +kernel
theorem dX9_placeNow_5 : decode cX9_placeNow 5 = .ok (.aload_n 0, 1) := by decide +kernel
theorem dX9_placeNow_6 : decode cX9_placeNow 6 = .ok (.getfield 156, 3) := by decide +kernel
theorem dX9_placeNow_9 : decode cX9_placeNow 9 = .ok (.if_icmp .ge 23, 3) := by decide +kernel
theorem dX9_placeNow_12 : decode cX9_placeNow 12 = .ok (.iload_n 1, 1) := by decide +kernel
theorem dX9_placeNow_13 : decode cX9_placeNow 13 = .ok (.aload_n 0, 1) := by decide +kernel
theorem dX9_placeNow_14 : decode cX9_placeNow 14 = .ok (.getfield 19, 3) := by decide +kernel
theorem dX9_placeNow_17 : decode cX9_placeNow 17 = .ok (.imul, 1) := by decide +kernel
theorem dX9_placeNow_18 : decode cX9_placeNow 18 = .ok (.aload_n 0, 1) := by decide +kernel
theorem dX9_placeNow_19 : decode cX9_placeNow 19 = .ok (.getfield 45, 3) := by decide +kernel
theorem dX9_placeNow_22 : decode cX9_placeNow 22 = .ok (.iload_n 2, 1) := by decide +kernel
theorem dX9_placeNow_23 : decode cX9_placeNow 23 = .ok (.iaload, 1) := by decide +kernel
theorem dX9_placeNow_24 : decode cX9_placeNow 24 = .ok (.iadd, 1) := by decide +kernel
theorem dX9_placeNow_25 : decode cX9_placeNow 25 = .ok (.istore_n 1, 1) := by decide +kernel
theorem dX9_placeNow_26 : decode cX9_placeNow 26 = .ok (.iinc 2 1, 3) := by decide +kernel
theorem dX9_placeNow_29 : decode cX9_placeNow 29 = .ok (.goto (-25), 3) := by decide +kernel
theorem dX9_placeNow_32 : decode cX9_placeNow 32 = .ok (.iload_n 1, 1) := by decide +kernel
theorem dX9_placeNow_33 : decode cX9_placeNow 33 = .ok (.ireturn, 1) := by decide +kernel
theorem dX9_findLevel_0 : decode cX9_findLevel 0 = .ok (.aload_n 0, 1) := by decide +kernel
theorem dX9_findLevel_1 : decode cX9_findLevel 1 = .ok (.aload_n 0, 1) := by decide +kernel
theorem dX9_findLevel_2 : decode cX9_findLevel 2 = .ok (.iload_n 1, 1) := by decide +kernel
theorem dX9_findLevel_3 : decode cX9_findLevel 3 = .ok (.sipush 256, 3) := by decide +kernel
theorem dX9_findLevel_6 : decode cX9_findLevel 6 = .ok (.invokevirtual 223, 3) := by decide +kernel
theorem dX9_findLevel_9 : decode cX9_findLevel 9 = .ok (.putfield 226, 3) := by decide +kernel
theorem dX9_findLevel_12 : decode cX9_findLevel 12 = .ok (.aload_n 0, 1) := by decide +kernel
theorem dX9_findLevel_13 : decode cX9_findLevel 13 = .ok (.invokevirtual 130, 3) := by decide +kernel
theorem dX9_findLevel_16 : decode cX9_findLevel 16 = .ok (.iconst 0, 1) := by decide +kernel
theorem dX9_findLevel_17 : decode cX9_findLevel 17 = .ok (.istore_n 2, 1) := by decide +kernel
theorem dX9_findLevel_18 : decode cX9_findLevel 18 = .ok (.iload_n 2, 1) := by decide +kernel
theorem dX9_findLevel_19 : decode cX9_findLevel 19 = .ok (.aload_n 0, 1) := by decide +kernel
theorem dX9_findLevel_20 : decode cX9_findLevel 20 = .ok (.getfield 127, 3) := by decide +kernel
theorem dX9_findLevel_23 : decode cX9_findLevel 23 = .ok (.if_icmp .ge 57, 3) := by decide +kernel
theorem dX9_findLevel_26 : decode cX9_findLevel 26 = .ok (.iconst 0, 1) := by decide +kernel
theorem dX9_findLevel_27 : decode cX9_findLevel 27 = .ok (.istore_n 3, 1) := by decide +kernel
theorem dX9_findLevel_28 : decode cX9_findLevel 28 = .ok (.iload_n 3, 1) := by decide +kernel
theorem dX9_findLevel_29 : decode cX9_findLevel 29 = .ok (.aload_n 0, 1) := by decide +kernel
theorem dX9_findLevel_30 : decode cX9_findLevel 30 = .ok (.getfield 226, 3) := by decide +kernel
theorem dX9_findLevel_33 : decode cX9_findLevel 33 = .ok (.if_icmp .ge 41, 3) := by decide +kernel
theorem dX9_findLevel_36 : decode cX9_findLevel 36 = .ok (.aload_n 0, 1) := by decide +kernel
theorem dX9_findLevel_37 : decode cX9_findLevel 37 = .ok (.iload_n 3, 1) := by decide +kernel
theorem dX9_findLevel_38 : decode cX9_findLevel 38 = .ok (.iload_n 1, 1) := by decide +kernel
theorem dX9_findLevel_39 : decode cX9_findLevel 39 = .ok (.invokevirtual 229, 3) := by decide +kernel
theorem dX9_findLevel_42 : decode cX9_findLevel 42 = .ok (.aload_n 0, 1) := by decide +kernel
theorem dX9_findLevel_43 : decode cX9_findLevel 43 = .ok (.aload_n 0, 1) := by decide +kernel
theorem dX9_findLevel_44 : decode cX9_findLevel 44 = .ok (.getfield 39, 3) := by decide +kernel
theorem dX9_findLevel_47 : decode cX9_findLevel 47 = .ok (.iload_n 2, 1) := by decide +kernel
theorem dX9_findLevel_48 : decode cX9_findLevel 48 = .ok (.iaload, 1) := by decide +kernel
theorem dX9_findLevel_49 : decode cX9_findLevel 49 = .ok (.invokevirtual 163, 3) := by decide +kernel
theorem dX9_findLevel_52 : decode cX9_findLevel 52 = .ok (.aload_n 0, 1) := by decide +kernel
theorem dX9_findLevel_53 : decode cX9_findLevel 53 = .ok (.getfield 69, 3) := by decide +kernel
theorem dX9_findLevel_56 : decode cX9_findLevel 56 = .ok (.sipush 256, 3) := by decide +kernel
theorem dX9_findLevel_59 : decode cX9_findLevel 59 = .ok (.iload_n 2, 1) := by decide +kernel
theorem dX9_findLevel_60 : decode cX9_findLevel 60 = .ok (.imul, 1) := by decide +kernel
theorem dX9_findLevel_61 : decode cX9_findLevel 61 = .ok (.iload_n 3, 1) := by decide +kernel
theorem dX9_findLevel_62 : decode cX9_findLevel 62 = .ok (.iadd, 1) := by decide +kernel
theorem dX9_findLevel_63 : decode cX9_findLevel 63 = .ok (.aload_n 0, 1) := by decide +kernel
theorem dX9_findLevel_64 : decode cX9_findLevel 64 = .ok (.invokevirtual 232, 3) := by decide +kernel
theorem dX9_findLevel_67 : decode cX9_findLevel 67 = .ok (.iastore, 1) := by decide +kernel
theorem dX9_findLevel_68 : decode cX9_findLevel 68 = .ok (.iinc 3 1, 3) := by decide +kernel
theorem dX9_findLevel_71 : decode cX9_findLevel 71 = .ok (.goto (-43), 3) := by decide +kernel
theorem dX9_findLevel_74 : decode cX9_findLevel 74 = .ok (.iinc 2 1, 3) := by decide +kernel
theorem dX9_findLevel_77 : decode cX9_findLevel 77 = .ok (.goto (-59), 3) := by decide +kernel
theorem dX9_findLevel_80 : decode cX9_findLevel 80 = .ok (.return_, 1) := by decide +kernel
theorem dX9_isTokenBack_0 : decode cX9_isTokenBack 0 = .ok (.aload_n 0, 1) := by decide +kernel
theorem dX9_isTokenBack_1 : decode cX9_isTokenBack 1 = .ok (.iload_n 1, 1) := by decide +kernel
theorem dX9_isTokenBack_2 : decode cX9_isTokenBack 2 = .ok (.ifCond .ge 10, 3) := by decide +kernel
theorem dX9_isTokenBack_5 : decode cX9_isTokenBack 5 = .ok (.iload_n 1, 1) := by decide +kernel
theorem dX9_isTokenBack_6 : decode cX9_isTokenBack 6 = .ok (.ineg, 1) := by decide +kernel
theorem dX9_isTokenBack_7 : decode cX9_isTokenBack 7 = .ok (.iconst 1, 1) := by decide +kernel
theorem dX9_isTokenBack_8 : decode cX9_isTokenBack 8 = .ok (.isub, 1) := by decide +kernel
theorem dX9_isTokenBack_9 : decode cX9_isTokenBack 9 = .ok (.goto 6, 3) := by decide +kernel
theorem dX9_isTokenBack_12 : decode cX9_isTokenBack 12 = .ok (.iload_n 1, 1) := by decide +kernel
theorem dX9_isTokenBack_13 : decode cX9_isTokenBack 13 = .ok (.iconst 1, 1) := by decide +kernel
theorem dX9_isTokenBack_14 : decode cX9_isTokenBack 14 = .ok (.isub, 1) := by decide +kernel
theorem dX9_isTokenBack_15 : decode cX9_isTokenBack 15 = .ok (.invokevirtual 124, 3) := by decide +kernel
theorem dX9_isTokenBack_18 : decode cX9_isTokenBack 18 = .ok (.ireturn, 1) := by decide +kernel
theorem dX9_common_0 : decode cX9_common 0 = .ok (.lload_n 0, 1) := by decide +kernel
theorem dX9_common_1 : decode cX9_common 1 = .ok (.lstore 4, 2) := by decide +kernel
theorem dX9_common_3 : decode cX9_common 3 = .ok (.lload_n 2, 1) := by decide +kernel
theorem dX9_common_4 : decode cX9_common 4 = .ok (.lstore 6, 2) := by decide +kernel
theorem dX9_common_6 : decode cX9_common 6 = .ok (.lload 6, 2) := by decide +kernel
theorem dX9_common_8 : decode cX9_common 8 = .ok (.lconst 0, 1) := by decide +kernel
theorem dX9_common_9 : decode cX9_common 9 = .ok (.lcmp, 1) := by decide +kernel
theorem dX9_common_10 : decode cX9_common 10 = .ok (.ifCond .eq 21, 3) := by decide +kernel
theorem dX9_common_13 : decode cX9_common 13 = .ok (.lload 4, 2) := by decide +kernel
theorem dX9_common_15 : decode cX9_common 15 = .ok (.lload 6, 2) := by decide +kernel
theorem dX9_common_17 : decode cX9_common 17 = .ok (.lrem, 1) := by decide +kernel
theorem dX9_common_18 : decode cX9_common 18 = .ok (.lstore 8, 2) := by decide +kernel
theorem dX9_common_20 : decode cX9_common 20 = .ok (.lload 6, 2) := by decide +kernel
theorem dX9_common_22 : decode cX9_common 22 = .ok (.lstore 4, 2) := by decide +kernel
theorem dX9_common_24 : decode cX9_common 24 = .ok (.lload 8, 2) := by decide +kernel
theorem dX9_common_26 : decode cX9_common 26 = .ok (.lstore 6, 2) := by decide +kernel
theorem dX9_common_28 : decode cX9_common 28 = .ok (.goto (-22), 3) := by decide +kernel
theorem dX9_common_31 : decode cX9_common 31 = .ok (.lload 4, 2) := by decide +kernel
theorem dX9_common_33 : decode cX9_common 33 = .ok (.lreturn, 1) := by decide +kernel
theorem dX9_order_0 : decode cX9_order 0 = .ok (.aload_n 0, 1) := by decide +kernel
theorem dX9_order_1 : decode cX9_order 1 = .ok (.iload_n 2, 1) := by decide +kernel
theorem dX9_order_2 : decode cX9_order 2 = .ok (.sipush 256, 3) := by decide +kernel
theorem dX9_order_5 : decode cX9_order 5 = .ok (.invokevirtual 223, 3) := by decide +kernel
theorem dX9_order_8 : decode cX9_order 8 = .ok (.istore_n 3, 1) := by decide +kernel
theorem dX9_order_9 : decode cX9_order 9 = .ok (.iload_n 1, 1) := by decide +kernel
theorem dX9_order_10 : decode cX9_order 10 = .ok (.invokestatic 137, 3) := by decide +kernel
theorem dX9_order_13 : decode cX9_order 13 = .ok (.ifCond .eq 7, 3) := by decide +kernel
theorem dX9_order_16 : decode cX9_order 16 = .ok (.iload_n 3, 1) := by decide +kernel
theorem dX9_order_17 : decode cX9_order 17 = .ok (.ifCond .ge 5, 3) := by decide +kernel
theorem dX9_order_20 : decode cX9_order 20 = .ok (.iconst (-1), 1) := by decide +kernel
theorem dX9_order_21 : decode cX9_order 21 = .ok (.ireturn, 1) := by decide +kernel
theorem dX9_order_22 : decode cX9_order 22 = .ok (.aload_n 0, 1) := by decide +kernel
theorem dX9_order_23 : decode cX9_order 23 = .ok (.invokevirtual 133, 3) := by decide +kernel
theorem dX9_order_26 : decode cX9_order 26 = .ok (.ifCond .ne 6, 3) := by decide +kernel
theorem dX9_order_29 : decode cX9_order 29 = .ok (.bipush (-5), 2) := by decide +kernel
theorem dX9_order_31 : decode cX9_order 31 = .ok (.ireturn, 1) := by decide +kernel
theorem dX9_order_32 : decode cX9_order 32 = .ok (.iconst 0, 1) := by decide +kernel
theorem dX9_order_33 : decode cX9_order 33 = .ok (.istore 4, 2) := by decide +kernel
theorem dX9_order_35 : decode cX9_order 35 = .ok (.iload 4, 2) := by decide +kernel
theorem dX9_order_37 : decode cX9_order 37 = .ok (.aload_n 0, 1) := by decide +kernel
theorem dX9_order_38 : decode cX9_order 38 = .ok (.getfield 32, 3) := by decide +kernel
theorem dX9_order_41 : decode cX9_order 41 = .ok (.iload_n 1, 1) := by decide +kernel
theorem dX9_order_42 : decode cX9_order 42 = .ok (.iaload, 1) := by decide +kernel
theorem dX9_order_43 : decode cX9_order 43 = .ok (.if_icmp .ge 31, 3) := by decide +kernel
theorem dX9_order_46 : decode cX9_order 46 = .ok (.aload_n 0, 1) := by decide +kernel
theorem dX9_order_47 : decode cX9_order 47 = .ok (.aload_n 0, 1) := by decide +kernel
theorem dX9_order_48 : decode cX9_order 48 = .ok (.getfield 29, 3) := by decide +kernel
theorem dX9_order_51 : decode cX9_order 51 = .ok (.bipush 34, 2) := by decide +kernel
theorem dX9_order_53 : decode cX9_order 53 = .ok (.iload_n 1, 1) := by decide +kernel
theorem dX9_order_54 : decode cX9_order 54 = .ok (.imul, 1) := by decide +kernel
theorem dX9_order_55 : decode cX9_order 55 = .ok (.iload 4, 2) := by decide +kernel
theorem dX9_order_57 : decode cX9_order 57 = .ok (.iadd, 1) := by decide +kernel
theorem dX9_order_58 : decode cX9_order 58 = .ok (.iaload, 1) := by decide +kernel
theorem dX9_order_59 : decode cX9_order 59 = .ok (.invokevirtual 235, 3) := by decide +kernel
theorem dX9_order_62 : decode cX9_order 62 = .ok (.ifCond .ne 6, 3) := by decide +kernel
theorem dX9_order_65 : decode cX9_order 65 = .ok (.bipush (-6), 2) := by decide +kernel
theorem dX9_order_67 : decode cX9_order 67 = .ok (.ireturn, 1) := by decide +kernel
theorem dX9_order_68 : decode cX9_order 68 = .ok (.iinc 4 1, 3) := by decide +kernel
theorem dX9_order_71 : decode cX9_order 71 = .ok (.goto (-36), 3) := by decide +kernel
theorem dX9_order_74 : decode cX9_order 74 = .ok (.iconst 0, 1) := by decide +kernel
theorem dX9_order_75 : decode cX9_order 75 = .ok (.istore 4, 2) := by decide +kernel
theorem dX9_order_77 : decode cX9_order 77 = .ok (.iload 4, 2) := by decide +kernel
theorem dX9_order_79 : decode cX9_order 79 = .ok (.iload_n 3, 1) := by decide +kernel
theorem dX9_order_80 : decode cX9_order 80 = .ok (.if_icmp .ge 63, 3) := by decide +kernel
theorem dX9_order_83 : decode cX9_order 83 = .ok (.aload_n 0, 1) := by decide +kernel
theorem dX9_order_84 : decode cX9_order 84 = .ok (.iload 4, 2) := by decide +kernel
theorem dX9_order_86 : decode cX9_order 86 = .ok (.iload_n 2, 1) := by decide +kernel
theorem dX9_order_87 : decode cX9_order 87 = .ok (.invokevirtual 229, 3) := by decide +kernel
theorem dX9_order_90 : decode cX9_order 90 = .ok (.iconst 0, 1) := by decide +kernel
theorem dX9_order_91 : decode cX9_order 91 = .ok (.istore 5, 2) := by decide +kernel
theorem dX9_order_93 : decode cX9_order 93 = .ok (.iload 5, 2) := by decide +kernel
theorem dX9_order_95 : decode cX9_order 95 = .ok (.aload_n 0, 1) := by decide +kernel
theorem dX9_order_96 : decode cX9_order 96 = .ok (.getfield 32, 3) := by decide +kernel
theorem dX9_order_99 : decode cX9_order 99 = .ok (.iload_n 1, 1) := by decide +kernel
theorem dX9_order_100 : decode cX9_order 100 = .ok (.iaload, 1) := by decide +kernel
theorem dX9_order_101 : decode cX9_order 101 = .ok (.if_icmp .ge 25, 3) := by decide +kernel
theorem dX9_order_104 : decode cX9_order 104 = .ok (.aload_n 0, 1) := by decide +kernel
theorem dX9_order_105 : decode cX9_order 105 = .ok (.aload_n 0, 1) := by decide +kernel
theorem dX9_order_106 : decode cX9_order 106 = .ok (.getfield 29, 3) := by decide +kernel
theorem dX9_order_109 : decode cX9_order 109 = .ok (.bipush 34, 2) := by decide +kernel
theorem dX9_order_111 : decode cX9_order 111 = .ok (.iload_n 1, 1) := by decide +kernel
theorem dX9_order_112 : decode cX9_order 112 = .ok (.imul, 1) := by decide +kernel
theorem dX9_order_113 : decode cX9_order 113 = .ok (.iload 5, 2) := by decide +kernel
theorem dX9_order_115 : decode cX9_order 115 = .ok (.iadd, 1) := by decide +kernel
theorem dX9_order_116 : decode cX9_order 116 = .ok (.iaload, 1) := by decide +kernel
theorem dX9_order_117 : decode cX9_order 117 = .ok (.invokevirtual 163, 3) := by decide +kernel
theorem dX9_order_120 : decode cX9_order 120 = .ok (.iinc 5 1, 3) := by decide +kernel
theorem dX9_order_123 : decode cX9_order 123 = .ok (.goto (-30), 3) := by decide +kernel
theorem dX9_order_126 : decode cX9_order 126 = .ok (.aload_n 0, 1) := by decide +kernel
theorem dX9_order_127 : decode cX9_order 127 = .ok (.getfield 72, 3) := by decide +kernel
theorem dX9_order_130 : decode cX9_order 130 = .ok (.iload 4, 2) := by decide +kernel
theorem dX9_order_132 : decode cX9_order 132 = .ok (.aload_n 0, 1) := by decide +kernel
theorem dX9_order_133 : decode cX9_order 133 = .ok (.invokevirtual 232, 3) := by decide +kernel
theorem dX9_order_136 : decode cX9_order 136 = .ok (.iastore, 1) := by decide +kernel
theorem dX9_order_137 : decode cX9_order 137 = .ok (.iinc 4 1, 3) := by decide +kernel
theorem dX9_order_140 : decode cX9_order 140 = .ok (.goto (-63), 3) := by decide +kernel
theorem dX9_order_143 : decode cX9_order 143 = .ok (.lconst 1, 1) := by decide +kernel
theorem dX9_order_144 : decode cX9_order 144 = .ok (.lstore 4, 2) := by decide +kernel
theorem dX9_order_146 : decode cX9_order 146 = .ok (.iconst 0, 1) := by decide +kernel
theorem dX9_order_147 : decode cX9_order 147 = .ok (.istore 6, 2) := by decide +kernel
theorem dX9_order_149 : decode cX9_order 149 = .ok (.iload 6, 2) := by decide +kernel
theorem dX9_order_151 : decode cX9_order 151 = .ok (.iload_n 3, 1) := by decide +kernel
theorem dX9_order_152 : decode cX9_order 152 = .ok (.if_icmp .ge 73, 3) := by decide +kernel
theorem dX9_order_155 : decode cX9_order 155 = .ok (.lconst 1, 1) := by decide +kernel
theorem dX9_order_156 : decode cX9_order 156 = .ok (.lstore 7, 2) := by decide +kernel
theorem dX9_order_158 : decode cX9_order 158 = .ok (.aload_n 0, 1) := by decide +kernel
theorem dX9_order_159 : decode cX9_order 159 = .ok (.getfield 72, 3) := by decide +kernel
theorem dX9_order_162 : decode cX9_order 162 = .ok (.iload 6, 2) := by decide +kernel
theorem dX9_order_164 : decode cX9_order 164 = .ok (.iaload, 1) := by decide +kernel
theorem dX9_order_165 : decode cX9_order 165 = .ok (.istore 9, 2) := by decide +kernel
theorem dX9_order_167 : decode cX9_order 167 = .ok (.iload 9, 2) := by decide +kernel
theorem dX9_order_169 : decode cX9_order 169 = .ok (.iload 6, 2) := by decide +kernel
theorem dX9_order_171 : decode cX9_order 171 = .ok (.if_icmp .eq 21, 3) := by decide +kernel
theorem dX9_order_174 : decode cX9_order 174 = .ok (.lload 7, 2) := by decide +kernel
theorem dX9_order_176 : decode cX9_order 176 = .ok (.lconst 1, 1) := by decide +kernel
theorem dX9_order_177 : decode cX9_order 177 = .ok (.ladd, 1) := by decide +kernel
theorem dX9_order_178 : decode cX9_order 178 = .ok (.lstore 7, 2) := by decide +kernel
theorem dX9_order_180 : decode cX9_order 180 = .ok (.aload_n 0, 1) := by decide +kernel
theorem dX9_order_181 : decode cX9_order 181 = .ok (.getfield 72, 3) := by decide +kernel
