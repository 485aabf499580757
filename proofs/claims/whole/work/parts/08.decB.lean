theorem dX4_reset_0 : decode cX4_reset 0 = .ok (.aload_n 0, 1) := by decide +kernel
theorem dX4_reset_1 : decode cX4_reset 1 = .ok (.getfield 14, 3) := by decide +kernel
theorem dX4_reset_4 : decode cX4_reset 4 = .ok (.invokevirtual 62, 3) := by decide +kernel
theorem dX4_reset_7 : decode cX4_reset 7 = .ok (.aload_n 0, 1) := by decide +kernel
theorem dX4_reset_8 : decode cX4_reset 8 = .ok (.iconst 0, 1) := by decide +kernel
theorem dX4_reset_9 : decode cX4_reset 9 = .ok (.putfield 50, 3) := by decide +kernel
theorem dX4_reset_12 : decode cX4_reset 12 = .ok (.aload_n 0, 1) := by decide +kernel
theorem dX4_reset_13 : decode cX4_reset 13 = .ok (.iconst 0, 1) := by decide +kernel
theorem dX4_reset_14 : decode cX4_reset 14 = .ok (.putfield 53, 3) := by decide +kernel
theorem dX4_reset_17 : decode cX4_reset 17 = .ok (.aload_n 0, 1) := by decide +kernel
theorem dX4_reset_18 : decode cX4_reset 18 = .ok (.iconst 0, 1) := by decide +kernel
theorem dX4_reset_19 : decode cX4_reset 19 = .ok (.putfield 56, 3) := by decide +kernel
theorem dX4_reset_22 : decode cX4_reset 22 = .ok (.aload_n 0, 1) := by decide +kernel
theorem dX4_reset_23 : decode cX4_reset 23 = .ok (.iconst 0, 1) := by decide +kernel
theorem dX4_reset_24 : decode cX4_reset 24 = .ok (.putfield 59, 3) := by decide +kernel
theorem dX4_reset_27 : decode cX4_reset 27 = .ok (.return_, 1) := by decide +kernel
theorem dX4_indexOf_0 : decode cX4_indexOf 0 = .ok (.aload_n 0, 1) := by decide +kernel
theorem dX4_indexOf_1 : decode cX4_indexOf 1 = .ok (.getfield 14, 3) := by decide +kernel
theorem dX4_indexOf_4 : decode cX4_indexOf 4 = .ok (.aload_n 1, 1) := by decide +kernel
theorem dX4_indexOf_5 : decode cX4_indexOf 5 = .ok (.getfield 65, 3) := by decide +kernel
theorem dX4_indexOf_8 : decode cX4_indexOf 8 = .ok (.aload_n 1, 1) := by decide +kernel
theorem dX4_indexOf_9 : decode cX4_indexOf 9 = .ok (.getfield 69, 3) := by decide +kernel
theorem dX4_indexOf_12 : decode cX4_indexOf 12 = .ok (.invokevirtual 72, 3) := by decide +kernel
theorem dX4_indexOf_15 : decode cX4_indexOf 15 = .ok (.ireturn, 1) := by decide +kernel
theorem dX4_load_0 : decode cX4_load 0 = .ok (.aload_n 2, 1) := by decide +kernel
theorem dX4_load_1 : decode cX4_load 1 = .ok (.aload_n 0, 1) := by decide +kernel
theorem dX4_load_2 : decode cX4_load 2 = .ok (.getfield 14, 3) := by decide +kernel
theorem dX4_load_5 : decode cX4_load 5 = .ok (.getfield 76, 3) := by decide +kernel
theorem dX4_load_8 : decode cX4_load 8 = .ok (.iload_n 1, 1) := by decide +kernel
theorem dX4_load_9 : decode cX4_load 9 = .ok (.laload, 1) := by decide +kernel
theorem dX4_load_10 : decode cX4_load 10 = .ok (.putfield 65, 3) := by decide +kernel
theorem dX4_load_13 : decode cX4_load 13 = .ok (.aload_n 2, 1) := by decide +kernel
theorem dX4_load_14 : decode cX4_load 14 = .ok (.aload_n 0, 1) := by decide +kernel
theorem dX4_load_15 : decode cX4_load 15 = .ok (.getfield 14, 3) := by decide +kernel
theorem dX4_load_18 : decode cX4_load 18 = .ok (.getfield 80, 3) := by decide +kernel
theorem dX4_load_21 : decode cX4_load 21 = .ok (.iload_n 1, 1) := by decide +kernel
theorem dX4_load_22 : decode cX4_load 22 = .ok (.iaload, 1) := by decide +kernel
theorem dX4_load_23 : decode cX4_load 23 = .ok (.putfield 69, 3) := by decide +kernel
theorem dX4_load_26 : decode cX4_load 26 = .ok (.return_, 1) := by decide +kernel
theorem dX4_enter_0 : decode cX4_enter 0 = .ok (.aload_n 0, 1) := by decide +kernel
theorem dX4_enter_1 : decode cX4_enter 1 = .ok (.getfield 14, 3) := by decide +kernel
theorem dX4_enter_4 : decode cX4_enter 4 = .ok (.aload_n 1, 1) := by decide +kernel
theorem dX4_enter_5 : decode cX4_enter 5 = .ok (.getfield 65, 3) := by decide +kernel
theorem dX4_enter_8 : decode cX4_enter 8 = .ok (.aload_n 1, 1) := by decide +kernel
theorem dX4_enter_9 : decode cX4_enter 9 = .ok (.getfield 69, 3) := by decide +kernel
theorem dX4_enter_12 : decode cX4_enter 12 = .ok (.invokevirtual 83, 3) := by decide +kernel
theorem dX4_enter_15 : decode cX4_enter 15 = .ok (.ireturn, 1) := by decide +kernel
theorem dX4_take_0 : decode cX4_take 0 = .ok (.aload_n 0, 1) := by decide +kernel
theorem dX4_take_1 : decode cX4_take 1 = .ok (.getfield 14, 3) := by decide +kernel
theorem dX4_take_4 : decode cX4_take 4 = .ok (.aload_n 2, 1) := by decide +kernel
theorem dX4_take_5 : decode cX4_take 5 = .ok (.getfield 65, 3) := by decide +kernel
theorem dX4_take_8 : decode cX4_take 8 = .ok (.aload_n 2, 1) := by decide +kernel
theorem dX4_take_9 : decode cX4_take 9 = .ok (.getfield 69, 3) := by decide +kernel
theorem dX4_take_12 : decode cX4_take 12 = .ok (.invokevirtual 83, 3) := by decide +kernel
theorem dX4_take_15 : decode cX4_take 15 = .ok (.istore_n 3, 1) := by decide +kernel
theorem dX4_take_16 : decode cX4_take 16 = .ok (.iload_n 3, 1) := by decide +kernel
theorem dX4_take_17 : decode cX4_take 17 = .ok (.ifCond .lt 15, 3) := by decide +kernel
theorem dX4_take_20 : decode cX4_take 20 = .ok (.aload_n 0, 1) := by decide +kernel
theorem dX4_take_21 : decode cX4_take 21 = .ok (.aload_n 1, 1) := by decide +kernel
theorem dX4_take_22 : decode cX4_take 22 = .ok (.invokevirtual 86, 3) := by decide +kernel
theorem dX4_take_25 : decode cX4_take 25 = .ok (.ifCond .eq 7, 3) := by decide +kernel
theorem dX4_take_28 : decode cX4_take 28 = .ok (.iload_n 3, 1) := by decide +kernel
theorem dX4_take_29 : decode cX4_take 29 = .ok (.goto 4, 3) := by decide +kernel
theorem dX4_take_32 : decode cX4_take 32 = .ok (.iconst (-1), 1) := by decide +kernel
theorem dX4_take_33 : decode cX4_take 33 = .ok (.ireturn, 1) := by decide +kernel
theorem dX4_followParts_0 : decode cX4_followParts 0 = .ok (.aload_n 0, 1) := by decide +kernel
theorem dX4_followParts_1 : decode cX4_followParts 1 = .ok (.aload_n 1, 1) := by decide +kernel
theorem dX4_followParts_2 : decode cX4_followParts 2 = .ok (.getfield 90, 3) := by decide +kernel
theorem dX4_followParts_5 : decode cX4_followParts 5 = .ok (.putfield 46, 3) := by decide +kernel
theorem dX4_followParts_8 : decode cX4_followParts 8 = .ok (.aload_n 0, 1) := by decide +kernel
theorem dX4_followParts_9 : decode cX4_followParts 9 = .ok (.getfield 50, 3) := by decide +kernel
theorem dX4_followParts_12 : decode cX4_followParts 12 = .ok (.istore_n 2, 1) := by decide +kernel
theorem dX4_followParts_13 : decode cX4_followParts 13 = .ok (.iload_n 2, 1) := by decide +kernel
theorem dX4_followParts_14 : decode cX4_followParts 14 = .ok (.aload_n 0, 1) := by decide +kernel
theorem dX4_followParts_15 : decode cX4_followParts 15 = .ok (.getfield 14, 3) := by decide +kernel
theorem dX4_followParts_18 : decode cX4_followParts 18 = .ok (.getfield 93, 3) := by decide +kernel
theorem dX4_followParts_21 : decode cX4_followParts 21 = .ok (.if_icmp .ge 120, 3) := by decide +kernel
theorem dX4_followParts_24 : decode cX4_followParts 24 = .ok (.iload_n 2, 1) := by decide +kernel
theorem dX4_followParts_25 : decode cX4_followParts 25 = .ok (.sipush 200, 3) := by decide +kernel
theorem dX4_followParts_28 : decode cX4_followParts 28 = .ok (.if_icmp .ge 113, 3) := by decide +kernel
theorem dX4_followParts_31 : decode cX4_followParts 31 = .ok (.iconst 0, 1) := by decide +kernel
theorem dX4_followParts_32 : decode cX4_followParts 32 = .ok (.istore_n 3, 1) := by decide +kernel
theorem dX4_followParts_33 : decode cX4_followParts 33 = .ok (.iconst 0, 1) := by decide +kernel
theorem dX4_followParts_34 : decode cX4_followParts 34 = .ok (.istore 4, 2) := by decide +kernel
theorem dX4_followParts_36 : decode cX4_followParts 36 = .ok (.iload 4, 2) := by decide +kernel
theorem dX4_followParts_38 : decode cX4_followParts 38 = .ok (.aload_n 0, 1) := by decide +kernel
theorem dX4_followParts_39 : decode cX4_followParts 39 = .ok (.getfield 46, 3) := by decide +kernel
theorem dX4_followParts_42 : decode cX4_followParts 42 = .ok (.if_icmp .ge 79, 3) := by decide +kernel
theorem dX4_followParts_45 : decode cX4_followParts 45 = .ok (.aload_n 0, 1) := by decide +kernel
theorem dX4_followParts_46 : decode cX4_followParts 46 = .ok (.iload_n 2, 1) := by decide +kernel
theorem dX4_followParts_47 : decode cX4_followParts 47 = .ok (.aload_n 0, 1) := by decide +kernel
theorem dX4_followParts_48 : decode cX4_followParts 48 = .ok (.getfield 42, 3) := by decide +kernel
theorem dX4_followParts_51 : decode cX4_followParts 51 = .ok (.invokevirtual 96, 3) := by decide +kernel
theorem dX4_followParts_54 : decode cX4_followParts 54 = .ok (.iload_n 3, 1) := by decide +kernel
theorem dX4_followParts_55 : decode cX4_followParts 55 = .ok (.aload_n 0, 1) := by decide +kernel
theorem dX4_followParts_56 : decode cX4_followParts 56 = .ok (.getfield 42, 3) := by decide +kernel
theorem dX4_followParts_59 : decode cX4_followParts 59 = .ok (.aload_n 1, 1) := by decide +kernel
theorem dX4_followParts_60 : decode cX4_followParts 60 = .ok (.iload 4, 2) := by decide +kernel
theorem dX4_followParts_62 : decode cX4_followParts 62 = .ok (.invokevirtual 100, 3) := by decide +kernel
theorem dX4_followParts_65 : decode cX4_followParts 65 = .ok (.iconst 2, 1) := by decide +kernel
theorem dX4_followParts_66 : decode cX4_followParts 66 = .ok (.iload 4, 2) := by decide +kernel
theorem dX4_followParts_68 : decode cX4_followParts 68 = .ok (.imul, 1) := by decide +kernel
theorem dX4_followParts_69 : decode cX4_followParts 69 = .ok (.ishl, 1) := by decide +kernel
theorem dX4_followParts_70 : decode cX4_followParts 70 = .ok (.ior, 1) := by decide +kernel
theorem dX4_followParts_71 : decode cX4_followParts 71 = .ok (.istore_n 3, 1) := by decide +kernel
theorem dX4_followParts_72 : decode cX4_followParts 72 = .ok (.aload_n 0, 1) := by decide +kernel
theorem dX4_followParts_73 : decode cX4_followParts 73 = .ok (.getfield 14, 3) := by decide +kernel
theorem dX4_followParts_76 : decode cX4_followParts 76 = .ok (.aload_n 0, 1) := by decide +kernel
theorem dX4_followParts_77 : decode cX4_followParts 77 = .ok (.getfield 42, 3) := by decide +kernel
theorem dX4_followParts_80 : decode cX4_followParts 80 = .ok (.getfield 65, 3) := by decide +kernel
theorem dX4_followParts_83 : decode cX4_followParts 83 = .ok (.aload_n 0, 1) := by decide +kernel
theorem dX4_followParts_84 : decode cX4_followParts 84 = .ok (.getfield 42, 3) := by decide +kernel
theorem dX4_followParts_87 : decode cX4_followParts 87 = .ok (.getfield 69, 3) := by decide +kernel
theorem dX4_followParts_90 : decode cX4_followParts 90 = .ok (.invokevirtual 83, 3) := by decide +kernel
theorem dX4_followParts_93 : decode cX4_followParts 93 = .ok (.istore 5, 2) := by decide +kernel
theorem dX4_followParts_95 : decode cX4_followParts 95 = .ok (.iload 5, 2) := by decide +kernel
theorem dX4_followParts_97 : decode cX4_followParts 97 = .ok (.ifCond .ge 5, 3) := by decide +kernel
theorem dX4_followParts_100 : decode cX4_followParts 100 = .ok (.iconst 0, 1) := by decide +kernel
theorem dX4_followParts_101 : decode cX4_followParts 101 = .ok (.ireturn, 1) := by decide +kernel
theorem dX4_followParts_102 : decode cX4_followParts 102 = .ok (.aload_n 0, 1) := by decide +kernel
theorem dX4_followParts_103 : decode cX4_followParts 103 = .ok (.getfield 23, 3) := by decide +kernel
theorem dX4_followParts_106 : decode cX4_followParts 106 = .ok (.iload_n 2, 1) := by decide +kernel
theorem dX4_followParts_107 : decode cX4_followParts 107 = .ok (.iconst 4, 1) := by decide +kernel
theorem dX4_followParts_108 : decode cX4_followParts 108 = .ok (.imul, 1) := by decide +kernel
theorem dX4_followParts_109 : decode cX4_followParts 109 = .ok (.iload 4, 2) := by decide +kernel
theorem dX4_followParts_111 : decode cX4_followParts 111 = .ok (.iadd, 1) := by decide +kernel
theorem dX4_followParts_112 : decode cX4_followParts 112 = .ok (.iload 5, 2) := by decide +kernel
theorem dX4_followParts_114 : decode cX4_followParts 114 = .ok (.iastore, 1) := by decide +kernel
theorem dX4_followParts_115 : decode cX4_followParts 115 = .ok (.iinc 4 1, 3) := by decide +kernel
theorem dX4_followParts_118 : decode cX4_followParts 118 = .ok (.goto (-82), 3) := by decide +kernel
theorem dX4_followParts_121 : decode cX4_followParts 121 = .ok (.aload_n 0, 1) := by decide +kernel
theorem dX4_followParts_122 : decode cX4_followParts 122 = .ok (.getfield 27, 3) := by decide +kernel
theorem dX4_followParts_125 : decode cX4_followParts 125 = .ok (.iload_n 2, 1) := by decide +kernel
theorem dX4_followParts_126 : decode cX4_followParts 126 = .ok (.iload_n 3, 1) := by decide +kernel
theorem dX4_followParts_127 : decode cX4_followParts 127 = .ok (.iastore, 1) := by decide +kernel
theorem dX4_followParts_128 : decode cX4_followParts 128 = .ok (.aload_n 0, 1) := by decide +kernel
theorem dX4_followParts_129 : decode cX4_followParts 129 = .ok (.iload_n 2, 1) := by decide +kernel
theorem dX4_followParts_130 : decode cX4_followParts 130 = .ok (.iconst 1, 1) := by decide +kernel
theorem dX4_followParts_131 : decode cX4_followParts 131 = .ok (.iadd, 1) := by decide +kernel
theorem dX4_followParts_132 : decode cX4_followParts 132 = .ok (.putfield 50, 3) := by decide +kernel
theorem dX4_followParts_135 : decode cX4_followParts 135 = .ok (.iinc 2 1, 3) := by decide +kernel
theorem dX4_followParts_138 : decode cX4_followParts 138 = .ok (.goto (-125), 3) := by decide +kernel
theorem dX4_followParts_141 : decode cX4_followParts 141 = .ok (.iconst 1, 1) := by decide +kernel
theorem dX4_followParts_142 : decode cX4_followParts 142 = .ok (.ireturn, 1) := by decide +kernel
theorem dX4_classify_0 : decode cX4_classify 0 = .ok (.aload_n 0, 1) := by decide +kernel
theorem dX4_classify_1 : decode cX4_classify 1 = .ok (.getfield 53, 3) := by decide +kernel
theorem dX4_classify_4 : decode cX4_classify 4 = .ok (.aload_n 0, 1) := by decide +kernel
theorem dX4_classify_5 : decode cX4_classify 5 = .ok (.getfield 14, 3) := by decide +kernel
theorem dX4_classify_8 : decode cX4_classify 8 = .ok (.getfield 93, 3) := by decide +kernel
theorem dX4_classify_11 : decode cX4_classify 11 = .ok (.if_icmp .ne 4, 3) := by decide +kernel
theorem dX4_classify_14 : decode cX4_classify 14 = .ok (.return_, 1) := by decide +kernel
theorem dX4_classify_15 : decode cX4_classify 15 = .ok (.aload_n 0, 1) := by decide +kernel
theorem dX4_classify_16 : decode cX4_classify 16 = .ok (.aload_n 0, 1) := by decide +kernel
theorem dX4_classify_17 : decode cX4_classify 17 = .ok (.getfield 14, 3) := by decide +kernel
theorem dX4_classify_20 : decode cX4_classify 20 = .ok (.getfield 93, 3) := by decide +kernel
theorem dX4_classify_23 : decode cX4_classify 23 = .ok (.putfield 53, 3) := by decide +kernel
theorem dX4_classify_26 : decode cX4_classify 26 = .ok (.aload_n 0, 1) := by decide +kernel
theorem dX4_classify_27 : decode cX4_classify 27 = .ok (.getfield 20, 3) := by decide +kernel
theorem dX4_classify_30 : decode cX4_classify 30 = .ok (.invokevirtual 62, 3) := by decide +kernel
theorem dX4_classify_33 : decode cX4_classify 33 = .ok (.iconst 0, 1) := by decide +kernel
theorem dX4_classify_34 : decode cX4_classify 34 = .ok (.istore_n 1, 1) := by decide +kernel
theorem dX4_classify_35 : decode cX4_classify 35 = .ok (.iload_n 1, 1) := by decide +kernel
theorem dX4_classify_36 : decode cX4_classify 36 = .ok (.aload_n 0, 1) := by decide +kernel
theorem dX4_classify_37 : decode cX4_classify 37 = .ok (.getfield 53, 3) := by decide +kernel
theorem dX4_classify_40 : decode cX4_classify 40 = .ok (.if_icmp .ge 30, 3) := by decide +kernel
theorem dX4_classify_43 : decode cX4_classify 43 = .ok (.aload_n 0, 1) := by decide +kernel
theorem dX4_classify_44 : decode cX4_classify 44 = .ok (.getfield 30, 3) := by decide +kernel
theorem dX4_classify_47 : decode cX4_classify 47 = .ok (.iload_n 1, 1) := by decide +kernel
theorem dX4_classify_48 : decode cX4_classify 48 = .ok (.aload_n 0, 1) := by decide +kernel
theorem dX4_classify_49 : decode cX4_classify 49 = .ok (.getfield 20, 3) := by decide +kernel
theorem dX4_classify_52 : decode cX4_classify 52 = .ok (.aload_n 0, 1) := by decide +kernel
theorem dX4_classify_53 : decode cX4_classify 53 = .ok (.getfield 27, 3) := by decide +kernel
theorem dX4_classify_56 : decode cX4_classify 56 = .ok (.iload_n 1, 1) := by decide +kernel
theorem dX4_classify_57 : decode cX4_classify 57 = .ok (.iaload, 1) := by decide +kernel
theorem dX4_classify_58 : decode cX4_classify 58 = .ok (.i2l, 1) := by decide +kernel
theorem dX4_classify_59 : decode cX4_classify 59 = .ok (.iconst 0, 1) := by decide +kernel
theorem dX4_classify_60 : decode cX4_classify 60 = .ok (.invokevirtual 83, 3) := by decide +kernel
theorem dX4_classify_63 : decode cX4_classify 63 = .ok (.iastore, 1) := by decide +kernel
theorem dX4_classify_64 : decode cX4_classify 64 = .ok (.iinc 1 1, 3) := by decide +kernel
theorem dX4_classify_67 : decode cX4_classify 67 = .ok (.goto (-32), 3) := by decide +kernel
theorem dX4_classify_70 : decode cX4_classify 70 = .ok (.aload_n 0, 1) := by decide +kernel
theorem dX4_classify_71 : decode cX4_classify 71 = .ok (.aload_n 0, 1) := by decide +kernel
theorem dX4_classify_72 : decode cX4_classify 72 = .ok (.getfield 20, 3) := by decide +kernel
theorem dX4_classify_75 : decode cX4_classify 75 = .ok (.getfield 93, 3) := by decide +kernel
theorem dX4_classify_78 : decode cX4_classify 78 = .ok (.putfield 56, 3) := by decide +kernel
theorem dX4_classify_81 : decode cX4_classify 81 = .ok (.aload_n 0, 1) := by decide +kernel
theorem dX4_classify_82 : decode cX4_classify 82 = .ok (.iconst 0, 1) := by decide +kernel
theorem dX4_classify_83 : decode cX4_classify 83 = .ok (.putfield 59, 3) := by decide +kernel
theorem dX4_classify_86 : decode cX4_classify 86 = .ok (.aload_n 0, 1) := by decide +kernel
theorem dX4_classify_87 : decode cX4_classify 87 = .ok (.invokevirtual 104, 3) := by decide +kernel
theorem dX4_classify_90 : decode cX4_classify 90 = .ok (.iconst 1, 1) := by decide +kernel
theorem dX4_classify_91 : decode cX4_classify 91 = .ok (.istore_n 1, 1) := by decide +kernel
theorem dX4_classify_92 : decode cX4_classify 92 = .ok (.iload_n 1, 1) := by decide +kernel
theorem dX4_classify_93 : decode cX4_classify 93 = .ok (.sipush 200, 3) := by decide +kernel
theorem dX4_classify_96 : decode cX4_classify 96 = .ok (.if_icmp .gt 33, 3) := by decide +kernel
theorem dX4_classify_99 : decode cX4_classify 99 = .ok (.aload_n 0, 1) := by decide +kernel
theorem dX4_classify_100 : decode cX4_classify 100 = .ok (.getfield 56, 3) := by decide +kernel
theorem dX4_classify_103 : decode cX4_classify 103 = .ok (.istore_n 2, 1) := by decide +kernel
theorem dX4_classify_104 : decode cX4_classify 104 = .ok (.aload_n 0, 1) := by decide +kernel
theorem dX4_classify_105 : decode cX4_classify 105 = .ok (.invokevirtual 107, 3) := by decide +kernel
theorem dX4_classify_108 : decode cX4_classify 108 = .ok (.aload_n 0, 1) := by decide +kernel
theorem dX4_classify_109 : decode cX4_classify 109 = .ok (.getfield 56, 3) := by decide +kernel
theorem dX4_classify_112 : decode cX4_classify 112 = .ok (.iload_n 2, 1) := by decide +kernel
theorem dX4_classify_113 : decode cX4_classify 113 = .ok (.if_icmp .ne 6, 3) := by decide +kernel
theorem dX4_classify_116 : decode cX4_classify 116 = .ok (.goto 13, 3) := by decide +kernel
theorem dX4_classify_119 : decode cX4_classify 119 = .ok (.aload_n 0, 1) := by decide +kernel
theorem dX4_classify_120 : decode cX4_classify 120 = .ok (.invokevirtual 104, 3) := by decide +kernel
theorem dX4_classify_123 : decode cX4_classify 123 = .ok (.iinc 1 1, 3) := by decide +kernel
theorem dX4_classify_126 : decode cX4_classify 126 = .ok (.goto (-34), 3) := by decide +kernel
theorem dX4_classify_129 : decode cX4_classify 129 = .ok (.return_, 1) := by decide +kernel
theorem dX4_refine_0 : decode cX4_refine 0 = .ok (.aload_n 0, 1) := by decide +kernel
theorem dX4_refine_1 : decode cX4_refine 1 = .ok (.getfield 20, 3) := by decide +kernel
theorem dX4_refine_4 : decode cX4_refine 4 = .ok (.invokevirtual 62, 3) := by decide +kernel
theorem dX4_refine_7 : decode cX4_refine 7 = .ok (.iconst 0, 1) := by decide +kernel
theorem dX4_refine_8 : decode cX4_refine 8 = .ok (.istore_n 1, 1) := by decide +kernel
theorem dX4_refine_9 : decode cX4_refine 9 = .ok (.iload_n 1, 1) := by decide +kernel
theorem dX4_refine_10 : decode cX4_refine 10 = .ok (.aload_n 0, 1) := by decide +kernel
theorem dX4_refine_11 : decode cX4_refine 11 = .ok (.getfield 53, 3) := by decide +kernel
theorem dX4_refine_14 : decode cX4_refine 14 = .ok (.if_icmp .ge 73, 3) := by decide +kernel
theorem dX4_refine_17 : decode cX4_refine 17 = .ok (.aload_n 0, 1) := by decide +kernel
theorem dX4_refine_18 : decode cX4_refine 18 = .ok (.getfield 30, 3) := by decide +kernel
theorem dX4_refine_21 : decode cX4_refine 21 = .ok (.iload_n 1, 1) := by decide +kernel
theorem dX4_refine_22 : decode cX4_refine 22 = .ok (.iaload, 1) := by decide +kernel
theorem dX4_refine_23 : decode cX4_refine 23 = .ok (.i2l, 1) := by decide +kernel
theorem dX4_refine_24 : decode cX4_refine 24 = .ok (.lstore_n 2, 1) := by decide +kernel
theorem dX4_refine_25 : decode cX4_refine 25 = .ok (.iconst 0, 1) := by decide +kernel
theorem dX4_refine_26 : decode cX4_refine 26 = .ok (.istore 4, 2) := by decide +kernel
theorem dX4_refine_28 : decode cX4_refine 28 = .ok (.iload 4, 2) := by decide +kernel
theorem dX4_refine_30 : decode cX4_refine 30 = .ok (.aload_n 0, 1) := by decide +kernel
theorem dX4_refine_31 : decode cX4_refine 31 = .ok (.getfield 46, 3) := by decide +kernel
theorem dX4_refine_34 : decode cX4_refine 34 = .ok (.if_icmp .ge 32, 3) := by decide +kernel
theorem dX4_refine_37 : decode cX4_refine 37 = .ok (.lload_n 2, 1) := by decide +kernel
theorem dX4_refine_38 : decode cX4_refine 38 = .ok (.bipush 8, 2) := by decide +kernel
theorem dX4_refine_40 : decode cX4_refine 40 = .ok (.lshl, 1) := by decide +kernel
theorem dX4_refine_41 : decode cX4_refine 41 = .ok (.aload_n 0, 1) := by decide +kernel
theorem dX4_refine_42 : decode cX4_refine 42 = .ok (.getfield 30, 3) := by decide +kernel
theorem dX4_refine_45 : decode cX4_refine 45 = .ok (.aload_n 0, 1) := by decide +kernel
theorem dX4_refine_46 : decode cX4_refine 46 = .ok (.getfield 23, 3) := by decide +kernel
theorem dX4_refine_49 : decode cX4_refine 49 = .ok (.iload_n 1, 1) := by decide +kernel
theorem dX4_refine_50 : decode cX4_refine 50 = .ok (.iconst 4, 1) := by decide +kernel
theorem dX4_refine_51 : decode cX4_refine 51 = .ok (.imul, 1) := by decide +kernel
theorem dX4_refine_52 : decode cX4_refine 52 = .ok (.iload 4, 2) := by decide +kernel
theorem dX4_refine_54 : decode cX4_refine 54 = .ok (.iadd, 1) := by decide +kernel
theorem dX4_refine_55 : decode cX4_refine 55 = .ok (.iaload, 1) := by decide +kernel
theorem dX4_refine_56 : decode cX4_refine 56 = .ok (.iaload, 1) := by decide +kernel
theorem dX4_refine_57 : decode cX4_refine 57 = .ok (.i2l, 1) := by decide +kernel
theorem dX4_refine_58 : decode cX4_refine 58 = .ok (.lor, 1) := by decide +kernel
theorem dX4_refine_59 : decode cX4_refine 59 = .ok (.lstore_n 2, 1) := by decide +kernel
theorem dX4_refine_60 : decode cX4_refine 60 = .ok (.iinc 4 1, 3) := by decide +kernel
theorem dX4_refine_63 : decode cX4_refine 63 = .ok (.goto (-35), 3) := by decide +kernel
theorem dX4_refine_66 : decode cX4_refine 66 = .ok (.aload_n 0, 1) := by decide +kernel
theorem dX4_refine_67 : decode cX4_refine 67 = .ok (.getfield 33, 3) := by decide +kernel
theorem dX4_refine_70 : decode cX4_refine 70 = .ok (.iload_n 1, 1) := by decide +kernel
theorem dX4_refine_71 : decode cX4_refine 71 = .ok (.aload_n 0, 1) := by decide +kernel
theorem dX4_refine_72 : decode cX4_refine 72 = .ok (.getfield 20, 3) := by decide +kernel
theorem dX4_refine_75 : decode cX4_refine 75 = .ok (.lload_n 2, 1) := by decide +kernel
theorem dX4_refine_76 : decode cX4_refine 76 = .ok (.iconst 0, 1) := by decide +kernel
theorem dX4_refine_77 : decode cX4_refine 77 = .ok (.invokevirtual 83, 3) := by decide +kernel
theorem dX4_refine_80 : decode cX4_refine 80 = .ok (.iastore, 1) := by decide +kernel
theorem dX4_refine_81 : decode cX4_refine 81 = .ok (.iinc 1 1, 3) := by decide +kernel
theorem dX4_refine_84 : decode cX4_refine 84 = .ok (.goto (-75), 3) := by decide +kernel
theorem dX4_refine_87 : decode cX4_refine 87 = .ok (.aload_n 0, 1) := by decide +kernel
theorem dX4_refine_88 : decode cX4_refine 88 = .ok (.aload_n 0, 1) := by decide +kernel
theorem dX4_refine_89 : decode cX4_refine 89 = .ok (.getfield 20, 3) := by decide +kernel
theorem dX4_refine_92 : decode cX4_refine 92 = .ok (.getfield 93, 3) := by decide +kernel
theorem dX4_refine_95 : decode cX4_refine 95 = .ok (.putfield 56, 3) := by decide +kernel
theorem dX4_refine_98 : decode cX4_refine 98 = .ok (.aload_n 0, 1) := by decide +kernel
theorem dX4_refine_99 : decode cX4_refine 99 = .ok (.getfield 33, 3) := by decide +kernel
theorem dX4_refine_102 : decode cX4_refine 102 = .ok (.iconst 0, 1) := by decide +kernel
theorem dX4_refine_103 : decode cX4_refine 103 = .ok (.aload_n 0, 1) := by decide +kernel
theorem dX4_refine_104 : decode cX4_refine 104 = .ok (.getfield 30, 3) := by decide +kernel
theorem dX4_refine_107 : decode cX4_refine 107 = .ok (.iconst 0, 1) := by decide +kernel
theorem dX4_refine_108 : decode cX4_refine 108 = .ok (.aload_n 0, 1) := by decide +kernel
theorem dX4_refine_109 : decode cX4_refine 109 = .ok (.getfield 53, 3) := by decide +kernel
theorem dX4_refine_112 : decode cX4_refine 112 = .ok (.invokestatic 110, 3) := by decide +kernel
theorem dX4_refine_115 : decode cX4_refine 115 = .ok (.return_, 1) := by decide +kernel
theorem dX4_keepRound_0 : decode cX4_keepRound 0 = .ok (.aload_n 0, 1) := by decide +kernel
theorem dX4_keepRound_1 : decode cX4_keepRound 1 = .ok (.getfield 59, 3) := by decide +kernel
theorem dX4_keepRound_4 : decode cX4_keepRound 4 = .ok (.bipush 14, 2) := by decide +kernel
theorem dX4_keepRound_6 : decode cX4_keepRound 6 = .ok (.if_icmp .ge 37, 3) := by decide +kernel
theorem dX4_keepRound_9 : decode cX4_keepRound 9 = .ok (.aload_n 0, 1) := by decide +kernel
theorem dX4_keepRound_10 : decode cX4_keepRound 10 = .ok (.getfield 30, 3) := by decide +kernel
theorem dX4_keepRound_13 : decode cX4_keepRound 13 = .ok (.iconst 0, 1) := by decide +kernel
theorem dX4_keepRound_14 : decode cX4_keepRound 14 = .ok (.aload_n 0, 1) := by decide +kernel
theorem dX4_keepRound_15 : decode cX4_keepRound 15 = .ok (.getfield 36, 3) := by decide +kernel
theorem dX4_keepRound_18 : decode cX4_keepRound 18 = .ok (.aload_n 0, 1) := by decide +kernel
theorem dX4_keepRound_19 : decode cX4_keepRound 19 = .ok (.getfield 59, 3) := by decide +kernel
theorem dX4_keepRound_22 : decode cX4_keepRound 22 = .ok (.sipush 200, 3) := by decide +kernel
theorem dX4_keepRound_25 : decode cX4_keepRound 25 = .ok (.imul, 1) := by decide +kernel
theorem dX4_keepRound_26 : decode cX4_keepRound 26 = .ok (.aload_n 0, 1) := by decide +kernel
theorem dX4_keepRound_27 : decode cX4_keepRound 27 = .ok (.getfield 53, 3) := by decide +kernel
theorem dX4_keepRound_30 : decode cX4_keepRound 30 = .ok (.invokestatic 110, 3) := by decide +kernel
theorem dX4_keepRound_33 : decode cX4_keepRound 33 = .ok (.aload_n 0, 1) := by decide +kernel
theorem dX4_keepRound_34 : decode cX4_keepRound 34 = .ok (.dup, 1) := by decide +kernel
theorem dX4_keepRound_35 : decode cX4_keepRound 35 = .ok (.getfield 59, 3) := by decide +kernel
theorem dX4_keepRound_38 : decode cX4_keepRound 38 = .ok (.iconst 1, 1) := by decide +kernel
theorem dX4_keepRound_39 : decode cX4_keepRound 39 = .ok (.iadd, 1) := by decide +kernel
theorem dX4_keepRound_40 : decode cX4_keepRound 40 = .ok (.putfield 59, 3) := by decide +kernel
theorem dX4_keepRound_43 : decode cX4_keepRound 43 = .ok (.return_, 1) := by decide +kernel
theorem dX4_areAlike_0 : decode cX4_areAlike 0 = .ok (.aload_n 0, 1) := by decide +kernel
theorem dX4_areAlike_1 : decode cX4_areAlike 1 = .ok (.getfield 30, 3) := by decide +kernel
theorem dX4_areAlike_4 : decode cX4_areAlike 4 = .ok (.iload_n 1, 1) := by decide +kernel
theorem dX4_areAlike_5 : decode cX4_areAlike 5 = .ok (.iaload, 1) := by decide +kernel
theorem dX4_areAlike_6 : decode cX4_areAlike 6 = .ok (.aload_n 0, 1) := by decide +kernel
theorem dX4_areAlike_7 : decode cX4_areAlike 7 = .ok (.getfield 30, 3) := by decide +kernel
theorem dX4_areAlike_10 : decode cX4_areAlike 10 = .ok (.iload_n 2, 1) := by decide +kernel
theorem dX4_areAlike_11 : decode cX4_areAlike 11 = .ok (.iaload, 1) := by decide +kernel
theorem dX4_areAlike_12 : decode cX4_areAlike 12 = .ok (.if_icmp .ne 7, 3) := by decide +kernel
theorem dX4_areAlike_15 : decode cX4_areAlike 15 = .ok (.iconst 1, 1) := by decide +kernel
theorem dX4_areAlike_16 : decode cX4_areAlike 16 = .ok (.goto 4, 3) := by decide +kernel
theorem dX4_areAlike_19 : decode cX4_areAlike 19 = .ok (.iconst 0, 1) := by decide +kernel
theorem dX4_areAlike_20 : decode cX4_areAlike 20 = .ok (.ireturn, 1) := by decide +kernel
theorem dX4_arePartedBy_0 : decode cX4_arePartedBy 0 = .ok (.aload_n 0, 1) := by decide +kernel
theorem dX4_arePartedBy_1 : decode cX4_arePartedBy 1 = .ok (.getfield 36, 3) := by decide +kernel
theorem dX4_arePartedBy_4 : decode cX4_arePartedBy 4 = .ok (.iload_n 1, 1) := by decide +kernel
theorem dX4_arePartedBy_5 : decode cX4_arePartedBy 5 = .ok (.sipush 200, 3) := by decide +kernel
theorem dX4_arePartedBy_8 : decode cX4_arePartedBy 8 = .ok (.imul, 1) := by decide +kernel
theorem dX4_arePartedBy_9 : decode cX4_arePartedBy 9 = .ok (.iload_n 2, 1) := by decide +kernel
theorem dX4_arePartedBy_10 : decode cX4_arePartedBy 10 = .ok (.iadd, 1) := by decide +kernel
theorem dX4_arePartedBy_11 : decode cX4_arePartedBy 11 = .ok (.iaload, 1) := by decide +kernel
theorem dX4_arePartedBy_12 : decode cX4_arePartedBy 12 = .ok (.aload_n 0, 1) := by decide +kernel
theorem dX4_arePartedBy_13 : decode cX4_arePartedBy 13 = .ok (.getfield 36, 3) := by decide +kernel
theorem dX4_arePartedBy_16 : decode cX4_arePartedBy 16 = .ok (.iload_n 1, 1) := by decide +kernel
theorem dX4_arePartedBy_17 : decode cX4_arePartedBy 17 = .ok (.sipush 200, 3) := by decide +kernel
theorem dX4_arePartedBy_20 : decode cX4_arePartedBy 20 = .ok (.imul, 1) := by decide +kernel
theorem dX4_arePartedBy_21 : decode cX4_arePartedBy 21 = .ok (.iload_n 3, 1) := by decide +kernel
theorem dX4_arePartedBy_22 : decode cX4_arePartedBy 22 = .ok (.iadd, 1) := by decide +kernel
theorem dX4_arePartedBy_23 : decode cX4_arePartedBy 23 = .ok (.iaload, 1) := by decide +kernel
theorem dX4_arePartedBy_24 : decode cX4_arePartedBy 24 = .ok (.if_icmp .eq 7, 3) := by decide +kernel
theorem dX4_arePartedBy_27 : decode cX4_arePartedBy 27 = .ok (.iconst 1, 1) := by decide +kernel
theorem dX4_arePartedBy_28 : decode cX4_arePartedBy 28 = .ok (.goto 4, 3) := by decide +kernel
theorem dX4_arePartedBy_31 : decode cX4_arePartedBy 31 = .ok (.iconst 0, 1) := by decide +kernel
theorem dX4_arePartedBy_32 : decode cX4_arePartedBy 32 = .ok (.ireturn, 1) := by decide +kernel
theorem dX4_partingRow_0 : decode cX4_partingRow 0 = .ok (.iconst 0, 1) := by decide +kernel
theorem dX4_partingRow_1 : decode cX4_partingRow 1 = .ok (.istore_n 3, 1) := by decide +kernel
theorem dX4_partingRow_2 : decode cX4_partingRow 2 = .ok (.iload_n 3, 1) := by decide +kernel
theorem dX4_partingRow_3 : decode cX4_partingRow 3 = .ok (.aload_n 0, 1) := by decide +kernel
theorem dX4_partingRow_4 : decode cX4_partingRow 4 = .ok (.getfield 59, 3) := by decide +kernel
theorem dX4_partingRow_7 : decode cX4_partingRow 7 = .ok (.if_icmp .ge 19, 3) := by decide +kernel
theorem dX4_partingRow_10 : decode cX4_partingRow 10 = .ok (.aload_n 0, 1) := by decide +kernel
theorem dX4_partingRow_11 : decode cX4_partingRow 11 = .ok (.iload_n 3, 1) := by decide +kernel
theorem dX4_partingRow_12 : decode cX4_partingRow 12 = .ok (.iload_n 1, 1) := by decide +kernel
theorem dX4_partingRow_13 : decode cX4_partingRow 13 = .ok (.iload_n 2, 1) := by decide +kernel
theorem dX4_partingRow_14 : decode cX4_partingRow 14 = .ok (.invokevirtual 116, 3) := by decide +kernel
theorem dX4_partingRow_17 : decode cX4_partingRow 17 = .ok (.ifCond .ne 9, 3) := by decide +kernel
theorem dX4_partingRow_20 : decode cX4_partingRow 20 = .ok (.iinc 3 1, 3) := by decide +kernel
theorem dX4_partingRow_23 : decode cX4_partingRow 23 = .ok (.goto (-21), 3) := by decide +kernel
theorem dX4_partingRow_26 : decode cX4_partingRow 26 = .ok (.iload_n 3, 1) := by decide +kernel
theorem dX4_partingRow_27 : decode cX4_partingRow 27 = .ok (.aload_n 0, 1) := by decide +kernel
theorem dX4_partingRow_28 : decode cX4_partingRow 28 = .ok (.getfield 59, 3) := by decide +kernel
theorem dX4_partingRow_31 : decode cX4_partingRow 31 = .ok (.if_icmp .lt 6, 3) := by decide +kernel
theorem dX4_partingRow_34 : decode cX4_partingRow 34 = .ok (.bipush (-8), 2) := by decide +kernel
theorem dX4_partingRow_36 : decode cX4_partingRow 36 = .ok (.ireturn, 1) := by decide +kernel
theorem dX4_partingRow_37 : decode cX4_partingRow 37 = .ok (.iconst 1, 1) := by decide +kernel
theorem dX4_partingRow_38 : decode cX4_partingRow 38 = .ok (.istore 4, 2) := by decide +kernel
theorem dX4_partingRow_40 : decode cX4_partingRow 40 = .ok (.iload_n 1, 1) := by decide +kernel
theorem dX4_partingRow_41 : decode cX4_partingRow 41 = .ok (.istore 5, 2) := by decide +kernel
theorem dX4_partingRow_43 : decode cX4_partingRow 43 = .ok (.iload_n 2, 1) := by decide +kernel
theorem dX4_partingRow_44 : decode cX4_partingRow 44 = .ok (.istore 6, 2) := by decide +kernel
theorem dX4_partingRow_46 : decode cX4_partingRow 46 = .ok (.iload_n 3, 1) := by decide +kernel
theorem dX4_partingRow_47 : decode cX4_partingRow 47 = .ok (.istore 7, 2) := by decide +kernel
theorem dX4_partingRow_49 : decode cX4_partingRow 49 = .ok (.iload 7, 2) := by decide +kernel
theorem dX4_partingRow_51 : decode cX4_partingRow 51 = .ok (.ifCond .le 60, 3) := by decide +kernel
theorem dX4_partingRow_54 : decode cX4_partingRow 54 = .ok (.aload_n 0, 1) := by decide +kernel
theorem dX4_partingRow_55 : decode cX4_partingRow 55 = .ok (.iload 7, 2) := by decide +kernel
theorem dX4_partingRow_57 : decode cX4_partingRow 57 = .ok (.iconst 1, 1) := by decide +kernel
theorem dX4_partingRow_58 : decode cX4_partingRow 58 = .ok (.isub, 1) := by decide +kernel
theorem dX4_partingRow_59 : decode cX4_partingRow 59 = .ok (.iload 5, 2) := by decide +kernel
theorem dX4_partingRow_61 : decode cX4_partingRow 61 = .ok (.iload 6, 2) := by decide +kernel
theorem dX4_partingRow_63 : decode cX4_partingRow 63 = .ok (.invokevirtual 120, 3) := by decide +kernel
theorem dX4_partingRow_66 : decode cX4_partingRow 66 = .ok (.istore 8, 2) := by decide +kernel
theorem dX4_partingRow_68 : decode cX4_partingRow 68 = .ok (.iconst 4, 1) := by decide +kernel
theorem dX4_partingRow_69 : decode cX4_partingRow 69 = .ok (.iload 4, 2) := by decide +kernel
theorem dX4_partingRow_71 : decode cX4_partingRow 71 = .ok (.imul, 1) := by decide +kernel
theorem dX4_partingRow_72 : decode cX4_partingRow 72 = .ok (.iload 8, 2) := by decide +kernel
theorem dX4_partingRow_74 : decode cX4_partingRow 74 = .ok (.iadd, 1) := by decide +kernel
theorem dX4_partingRow_75 : decode cX4_partingRow 75 = .ok (.istore 4, 2) := by decide +kernel
theorem dX4_partingRow_77 : decode cX4_partingRow 77 = .ok (.aload_n 0, 1) := by decide +kernel
theorem dX4_partingRow_78 : decode cX4_partingRow 78 = .ok (.getfield 23, 3) := by decide +kernel
theorem dX4_partingRow_81 : decode cX4_partingRow 81 = .ok (.iload 5, 2) := by decide +kernel
theorem dX4_partingRow_83 : decode cX4_partingRow 83 = .ok (.iconst 4, 1) := by decide +kernel
theorem dX4_partingRow_84 : decode cX4_partingRow 84 = .ok (.imul, 1) := by decide +kernel
theorem dX4_partingRow_85 : decode cX4_partingRow 85 = .ok (.iload 8, 2) := by decide +kernel
theorem dX4_partingRow_87 : decode cX4_partingRow 87 = .ok (.iadd, 1) := by decide +kernel
theorem dX4_partingRow_88 : decode cX4_partingRow 88 = .ok (.iaload, 1) := by decide +kernel
theorem dX4_partingRow_89 : decode cX4_partingRow 89 = .ok (.istore 5, 2) := by decide +kernel
theorem dX4_partingRow_91 : decode cX4_partingRow 91 = .ok (.aload_n 0, 1) := by decide +kernel
theorem dX4_partingRow_92 : decode cX4_partingRow 92 = .ok (.getfield 23, 3) := by decide +kernel
theorem dX4_partingRow_95 : decode cX4_partingRow 95 = .ok (.iload 6, 2) := by decide +kernel
theorem dX4_partingRow_97 : decode cX4_partingRow 97 = .ok (.iconst 4, 1) := by decide +kernel
theorem dX4_partingRow_98 : decode cX4_partingRow 98 = .ok (.imul, 1) := by decide +kernel
theorem dX4_partingRow_99 : decode cX4_partingRow 99 = .ok (.iload 8, 2) := by decide +kernel
theorem dX4_partingRow_101 : decode cX4_partingRow 101 = .ok (.iadd, 1) := by decide +kernel
theorem dX4_partingRow_102 : decode cX4_partingRow 102 = .ok (.iaload, 1) := by decide +kernel
theorem dX4_partingRow_103 : decode cX4_partingRow 103 = .ok (.istore 6, 2) := by decide +kernel
theorem dX4_partingRow_105 : decode cX4_partingRow 105 = .ok (.iinc 7 (-1), 3) := by decide +kernel
theorem dX4_partingRow_108 : decode cX4_partingRow 108 = .ok (.goto (-59), 3) := by decide +kernel
theorem dX4_partingRow_111 : decode cX4_partingRow 111 = .ok (.iconst 4, 1) := by decide +kernel
theorem dX4_partingRow_112 : decode cX4_partingRow 112 = .ok (.iload 4, 2) := by decide +kernel
theorem dX4_partingRow_114 : decode cX4_partingRow 114 = .ok (.imul, 1) := by decide +kernel
theorem dX4_partingRow_115 : decode cX4_partingRow 115 = .ok (.aload_n 0, 1) := by decide +kernel
theorem dX4_partingRow_116 : decode cX4_partingRow 116 = .ok (.aload_n 0, 1) := by decide +kernel
theorem dX4_partingRow_117 : decode cX4_partingRow 117 = .ok (.getfield 27, 3) := by decide +kernel
theorem dX4_partingRow_120 : decode cX4_partingRow 120 = .ok (.iload 5, 2) := by decide +kernel
theorem dX4_partingRow_122 : decode cX4_partingRow 122 = .ok (.iaload, 1) := by decide +kernel
theorem dX4_partingRow_123 : decode cX4_partingRow 123 = .ok (.aload_n 0, 1) := by decide +kernel
theorem dX4_partingRow_124 : decode cX4_partingRow 124 = .ok (.getfield 27, 3) := by decide +kernel
theorem dX4_partingRow_127 : decode cX4_partingRow 127 = .ok (.iload 6, 2) := by decide +kernel
theorem dX4_partingRow_129 : decode cX4_partingRow 129 = .ok (.iaload, 1) := by decide +kernel
theorem dX4_partingRow_130 : decode cX4_partingRow 130 = .ok (.ixor, 1) := by decide +kernel
theorem dX4_partingRow_131 : decode cX4_partingRow 131 = .ok (.invokevirtual 124, 3) := by decide +kernel
theorem dX4_partingRow_134 : decode cX4_partingRow 134 = .ok (.iadd, 1) := by decide +kernel
theorem dX4_partingRow_135 : decode cX4_partingRow 135 = .ok (.ireturn, 1) := by decide +kernel
theorem dX4_firstPartingLetter_0 : decode cX4_firstPartingLetter 0 = .ok (.iconst 0, 1) := by decide +kernel
theorem dX4_firstPartingLetter_1 : decode cX4_firstPartingLetter 1 = .ok (.istore 4, 2) := by decide +kernel
theorem dX4_firstPartingLetter_3 : decode cX4_firstPartingLetter 3 = .ok (.iload 4, 2) := by decide +kernel
theorem dX4_firstPartingLetter_5 : decode cX4_firstPartingLetter 5 = .ok (.aload_n 0, 1) := by decide +kernel
theorem dX4_firstPartingLetter_6 : decode cX4_firstPartingLetter 6 = .ok (.getfield 46, 3) := by decide +kernel
theorem dX4_firstPartingLetter_9 : decode cX4_firstPartingLetter 9 = .ok (.if_icmp .ge 42, 3) := by decide +kernel
theorem dX4_firstPartingLetter_12 : decode cX4_firstPartingLetter 12 = .ok (.aload_n 0, 1) := by decide +kernel
theorem dX4_firstPartingLetter_13 : decode cX4_firstPartingLetter 13 = .ok (.iload_n 1, 1) := by decide +kernel
theorem dX4_firstPartingLetter_14 : decode cX4_firstPartingLetter 14 = .ok (.aload_n 0, 1) := by decide +kernel
theorem dX4_firstPartingLetter_15 : decode cX4_firstPartingLetter 15 = .ok (.getfield 23, 3) := by decide +kernel
theorem dX4_firstPartingLetter_18 : decode cX4_firstPartingLetter 18 = .ok (.iload_n 2, 1) := by decide +kernel
theorem dX4_firstPartingLetter_19 : decode cX4_firstPartingLetter 19 = .ok (.iconst 4, 1) := by decide +kernel
theorem dX4_firstPartingLetter_20 : decode cX4_firstPartingLetter 20 = .ok (.imul, 1) := by decide +kernel
theorem dX4_firstPartingLetter_21 : decode cX4_firstPartingLetter 21 = .ok (.iload 4, 2) := by decide +kernel
theorem dX4_firstPartingLetter_23 : decode cX4_firstPartingLetter 23 = .ok (.iadd, 1) := by decide +kernel
theorem dX4_firstPartingLetter_24 : decode cX4_firstPartingLetter 24 = .ok (.iaload, 1) := by decide +kernel
theorem dX4_firstPartingLetter_25 : decode cX4_firstPartingLetter 25 = .ok (.aload_n 0, 1) := by decide +kernel
theorem dX4_firstPartingLetter_26 : decode cX4_firstPartingLetter 26 = .ok (.getfield 23, 3) := by decide +kernel
theorem dX4_firstPartingLetter_29 : decode cX4_firstPartingLetter 29 = .ok (.iload_n 3, 1) := by decide +kernel
theorem dX4_firstPartingLetter_30 : decode cX4_firstPartingLetter 30 = .ok (.iconst 4, 1) := by decide +kernel
theorem dX4_firstPartingLetter_31 : decode cX4_firstPartingLetter 31 = .ok (.imul, 1) := by decide +kernel
theorem dX4_firstPartingLetter_32 : decode cX4_firstPartingLetter 32 = .ok (.iload 4, 2) := by decide +kernel
theorem dX4_firstPartingLetter_34 : decode cX4_firstPartingLetter 34 = .ok (.iadd, 1) := by decide +kernel
theorem dX4_firstPartingLetter_35 : decode cX4_firstPartingLetter 35 = .ok (.iaload, 1) := by decide +kernel
theorem dX4_firstPartingLetter_36 : decode cX4_firstPartingLetter 36 = .ok (.invokevirtual 116, 3) := by decide +kernel
theorem dX4_firstPartingLetter_39 : decode cX4_firstPartingLetter 39 = .ok (.ifCond .eq 6, 3) := by decide +kernel
theorem dX4_firstPartingLetter_42 : decode cX4_firstPartingLetter 42 = .ok (.iload 4, 2) := by decide +kernel
theorem dX4_firstPartingLetter_44 : decode cX4_firstPartingLetter 44 = .ok (.ireturn, 1) := by decide +kernel
theorem dX4_firstPartingLetter_45 : decode cX4_firstPartingLetter 45 = .ok (.iinc 4 1, 3) := by decide +kernel
theorem dX4_firstPartingLetter_48 : decode cX4_firstPartingLetter 48 = .ok (.goto (-45), 3) := by decide +kernel
theorem dX4_firstPartingLetter_51 : decode cX4_firstPartingLetter 51 = .ok (.iconst 0, 1) := by decide +kernel
theorem dX4_firstPartingLetter_52 : decode cX4_firstPartingLetter 52 = .ok (.ireturn, 1) := by decide +kernel
theorem dX4_firstUnlikeLetter_0 : decode cX4_firstUnlikeLetter 0 = .ok (.iconst 0, 1) := by decide +kernel
theorem dX4_firstUnlikeLetter_1 : decode cX4_firstUnlikeLetter 1 = .ok (.istore_n 2, 1) := by decide +kernel
theorem dX4_firstUnlikeLetter_2 : decode cX4_firstUnlikeLetter 2 = .ok (.iload_n 2, 1) := by decide +kernel
theorem dX4_firstUnlikeLetter_3 : decode cX4_firstUnlikeLetter 3 = .ok (.aload_n 0, 1) := by decide +kernel
theorem dX4_firstUnlikeLetter_4 : decode cX4_firstUnlikeLetter 4 = .ok (.getfield 46, 3) := by decide +kernel
theorem dX4_firstUnlikeLetter_7 : decode cX4_firstUnlikeLetter 7 = .ok (.if_icmp .ge 21, 3) := by decide +kernel
theorem dX4_firstUnlikeLetter_10 : decode cX4_firstUnlikeLetter 10 = .ok (.iload_n 1, 1) := by decide +kernel
theorem dX4_firstUnlikeLetter_11 : decode cX4_firstUnlikeLetter 11 = .ok (.iconst 2, 1) := by decide +kernel
theorem dX4_firstUnlikeLetter_12 : decode cX4_firstUnlikeLetter 12 = .ok (.iload_n 2, 1) := by decide +kernel
theorem dX4_firstUnlikeLetter_13 : decode cX4_firstUnlikeLetter 13 = .ok (.imul, 1) := by decide +kernel
theorem dX4_firstUnlikeLetter_14 : decode cX4_firstUnlikeLetter 14 = .ok (.ishr, 1) := by decide +kernel
theorem dX4_firstUnlikeLetter_15 : decode cX4_firstUnlikeLetter 15 = .ok (.iconst 3, 1) := by decide +kernel
theorem dX4_firstUnlikeLetter_16 : decode cX4_firstUnlikeLetter 16 = .ok (.iand, 1) := by decide +kernel
theorem dX4_firstUnlikeLetter_17 : decode cX4_firstUnlikeLetter 17 = .ok (.ifCond .eq 5, 3) := by decide +kernel
theorem dX4_firstUnlikeLetter_20 : decode cX4_firstUnlikeLetter 20 = .ok (.iload_n 2, 1) := by decide +kernel
theorem dX4_firstUnlikeLetter_21 : decode cX4_firstUnlikeLetter 21 = .ok (.ireturn, 1) := by decide +kernel
theorem dX4_firstUnlikeLetter_22 : decode cX4_firstUnlikeLetter 22 = .ok (.iinc 2 1, 3) := by decide +kernel
theorem dX4_firstUnlikeLetter_25 : decode cX4_firstUnlikeLetter 25 = .ok (.goto (-23), 3) := by decide +kernel
theorem dX4_firstUnlikeLetter_28 : decode cX4_firstUnlikeLetter 28 = .ok (.iconst 0, 1) := by decide +kernel
theorem dX4_firstUnlikeLetter_29 : decode cX4_firstUnlikeLetter 29 = .ok (.ireturn, 1) := by decide +kernel
theorem dX5_lay_0 : decode cX5_lay 0 = .ok (.aload_n 0, 1) := by decide +kernel
theorem dX5_lay_1 : decode cX5_lay 1 = .ok (.getfield 9, 3) := by decide +kernel
theorem dX5_lay_4 : decode cX5_lay 4 = .ok (.iconst 0, 1) := by decide +kernel
theorem dX5_lay_5 : decode cX5_lay 5 = .ok (.invokestatic 15, 3) := by decide +kernel
theorem dX5_lay_8 : decode cX5_lay 8 = .ok (.aload_n 0, 1) := by decide +kernel
theorem dX5_lay_9 : decode cX5_lay 9 = .ok (.iconst 1, 1) := by decide +kernel
theorem dX5_lay_10 : decode cX5_lay 10 = .ok (.putfield 21, 3) := by decide +kernel
theorem dX5_lay_13 : decode cX5_lay 13 = .ok (.aload_n 0, 1) := by decide +kernel
theorem dX5_lay_14 : decode cX5_lay 14 = .ok (.iload_n 1, 1) := by decide +kernel
theorem dX5_lay_15 : decode cX5_lay 15 = .ok (.putfield 25, 3) := by decide +kernel
theorem dX5_lay_18 : decode cX5_lay 18 = .ok (.aload_n 0, 1) := by decide +kernel
theorem dX5_lay_19 : decode cX5_lay 19 = .ok (.iload_n 2, 1) := by decide +kernel
theorem dX5_lay_20 : decode cX5_lay 20 = .ok (.putfield 29, 3) := by decide +kernel
theorem dX5_lay_23 : decode cX5_lay 23 = .ok (.return_, 1) := by decide +kernel
theorem dX5_hasNumber_0 : decode cX5_hasNumber 0 = .ok (.iload_n 1, 1) := by decide +kernel
theorem dX5_hasNumber_1 : decode cX5_hasNumber 1 = .ok (.ifCond .lt 15, 3) := by decide +kernel
theorem dX5_hasNumber_4 : decode cX5_hasNumber 4 = .ok (.iload_n 1, 1) := by decide +kernel
theorem dX5_hasNumber_5 : decode cX5_hasNumber 5 = .ok (.aload_n 0, 1) := by decide +kernel
theorem dX5_hasNumber_6 : decode cX5_hasNumber 6 = .ok (.getfield 29, 3) := by decide +kernel
theorem dX5_hasNumber_9 : decode cX5_hasNumber 9 = .ok (.if_icmp .ge 7, 3) := by decide +kernel
theorem dX5_hasNumber_12 : decode cX5_hasNumber 12 = .ok (.iconst 1, 1) := by decide +kernel
theorem dX5_hasNumber_13 : decode cX5_hasNumber 13 = .ok (.goto 4, 3) := by decide +kernel
theorem dX5_hasNumber_16 : decode cX5_hasNumber 16 = .ok (.iconst 0, 1) := by decide +kernel
theorem dX5_hasNumber_17 : decode cX5_hasNumber 17 = .ok (.ireturn, 1) := by decide +kernel
theorem dX5_hasPair_0 : decode cX5_hasPair 0 = .ok (.iload_n 1, 1) := by decide +kernel
theorem dX5_hasPair_1 : decode cX5_hasPair 1 = .ok (.aload_n 0, 1) := by decide +kernel
theorem dX5_hasPair_2 : decode cX5_hasPair 2 = .ok (.getfield 29, 3) := by decide +kernel
theorem dX5_hasPair_5 : decode cX5_hasPair 5 = .ok (.if_icmp .ge 21, 3) := by decide +kernel
theorem dX5_hasPair_8 : decode cX5_hasPair 8 = .ok (.iload_n 1, 1) := by decide +kernel
theorem dX5_hasPair_9 : decode cX5_hasPair 9 = .ok (.iconst 2, 1) := by decide +kernel
theorem dX5_hasPair_10 : decode cX5_hasPair 10 = .ok (.iload_n 2, 1) := by decide +kernel
theorem dX5_hasPair_11 : decode cX5_hasPair 11 = .ok (.imul, 1) := by decide +kernel
theorem dX5_hasPair_12 : decode cX5_hasPair 12 = .ok (.iadd, 1) := by decide +kernel
theorem dX5_hasPair_13 : decode cX5_hasPair 13 = .ok (.iconst 1, 1) := by decide +kernel
theorem dX5_hasPair_14 : decode cX5_hasPair 14 = .ok (.iadd, 1) := by decide +kernel
theorem dX5_hasPair_15 : decode cX5_hasPair 15 = .ok (.aload_n 0, 1) := by decide +kernel
theorem dX5_hasPair_16 : decode cX5_hasPair 16 = .ok (.getfield 29, 3) := by decide +kernel
theorem dX5_hasPair_19 : decode cX5_hasPair 19 = .ok (.if_icmp .ge 7, 3) := by decide +kernel
theorem dX5_hasPair_22 : decode cX5_hasPair 22 = .ok (.iconst 1, 1) := by decide +kernel
theorem dX5_hasPair_23 : decode cX5_hasPair 23 = .ok (.goto 4, 3) := by decide +kernel
theorem dX5_hasPair_26 : decode cX5_hasPair 26 = .ok (.iconst 0, 1) := by decide +kernel
theorem dX5_hasPair_27 : decode cX5_hasPair 27 = .ok (.ireturn, 1) := by decide +kernel
theorem dX5_write_0 : decode cX5_write 0 = .ok (.aload_n 0, 1) := by decide +kernel
theorem dX5_write_1 : decode cX5_write 1 = .ok (.getfield 25, 3) := by decide +kernel
theorem dX5_write_4 : decode cX5_write 4 = .ok (.lookupswitch 50 #[(0, 28), (1, 39)], 28) := by decide +kernel
theorem dX5_write_32 : decode cX5_write 32 = .ok (.aload_n 0, 1) := by decide +kernel
theorem dX5_write_33 : decode cX5_write 33 = .ok (.getfield 9, 3) := by decide +kernel
theorem dX5_write_36 : decode cX5_write 36 = .ok (.iload_n 1, 1) := by decide +kernel
theorem dX5_write_37 : decode cX5_write 37 = .ok (.iload_n 2, 1) := by decide +kernel
theorem dX5_write_38 : decode cX5_write 38 = .ok (.i2b, 1) := by decide +kernel
theorem dX5_write_39 : decode cX5_write 39 = .ok (.iastore, 1) := by decide +kernel
theorem dX5_write_40 : decode cX5_write 40 = .ok (.goto 21, 3) := by decide +kernel
theorem dX5_write_43 : decode cX5_write 43 = .ok (.aload_n 0, 1) := by decide +kernel
theorem dX5_write_44 : decode cX5_write 44 = .ok (.getfield 9, 3) := by decide +kernel
theorem dX5_write_47 : decode cX5_write 47 = .ok (.iload_n 1, 1) := by decide +kernel
theorem dX5_write_48 : decode cX5_write 48 = .ok (.iload_n 2, 1) := by decide +kernel
theorem dX5_write_49 : decode cX5_write 49 = .ok (.i2s, 1) := by decide +kernel
theorem dX5_write_50 : decode cX5_write 50 = .ok (.iastore, 1) := by decide +kernel
theorem dX5_write_51 : decode cX5_write 51 = .ok (.goto 10, 3) := by decide +kernel
theorem dX5_write_54 : decode cX5_write 54 = .ok (.aload_n 0, 1) := by decide +kernel
theorem dX5_write_55 : decode cX5_write 55 = .ok (.getfield 9, 3) := by decide +kernel
theorem dX5_write_58 : decode cX5_write 58 = .ok (.iload_n 1, 1) := by decide +kernel
theorem dX5_write_59 : decode cX5_write 59 = .ok (.iload_n 2, 1) := by decide +kernel
theorem dX5_write_60 : decode cX5_write 60 = .ok (.iastore, 1) := by decide +kernel
theorem dX5_write_61 : decode cX5_write 61 = .ok (.return_, 1) := by decide +kernel
theorem dX6_forget_0 : decode cX6_forget 0 = .ok (.aload_n 0, 1) := by decide +kernel
theorem dX6_forget_1 : decode cX6_forget 1 = .ok (.iconst 0, 1) := by decide +kernel
theorem dX6_forget_2 : decode cX6_forget 2 = .ok (.putfield 45, 3) := by decide +kernel
theorem dX6_forget_5 : decode cX6_forget 5 = .ok (.return_, 1) := by decide +kernel
theorem dX6_gatherWithin_0 : decode cX6_gatherWithin 0 = .ok (.iload_n 2, 1) := by decide +kernel
theorem dX6_gatherWithin_1 : decode cX6_gatherWithin 1 = .ok (.ifCond .lt 8, 3) := by decide +kernel
theorem dX6_gatherWithin_4 : decode cX6_gatherWithin 4 = .ok (.iload_n 2, 1) := by decide +kernel
theorem dX6_gatherWithin_5 : decode cX6_gatherWithin 5 = .ok (.iconst 5, 1) := by decide +kernel
theorem dX6_gatherWithin_6 : decode cX6_gatherWithin 6 = .ok (.if_icmp .le 5, 3) := by decide +kernel
theorem dX6_gatherWithin_9 : decode cX6_gatherWithin 9 = .ok (.iconst (-1), 1) := by decide +kernel
theorem dX6_gatherWithin_10 : decode cX6_gatherWithin 10 = .ok (.ireturn, 1) := by decide +kernel
theorem dX6_gatherWithin_11 : decode cX6_gatherWithin 11 = .ok (.aload_n 1, 1) := by decide +kernel
theorem dX6_gatherWithin_12 : decode cX6_gatherWithin 12 = .ok (.getfield 52, 3) := by decide +kernel
theorem dX6_gatherWithin_15 : decode cX6_gatherWithin 15 = .ok (.ifCond .ne 6, 3) := by decide +kernel
theorem dX6_gatherWithin_18 : decode cX6_gatherWithin 18 = .ok (.bipush (-5), 2) := by decide +kernel
theorem dX6_gatherWithin_20 : decode cX6_gatherWithin 20 = .ok (.ireturn, 1) := by decide +kernel
theorem dX6_gatherWithin_21 : decode cX6_gatherWithin 21 = .ok (.aload_n 0, 1) := by decide +kernel
theorem dX6_gatherWithin_22 : decode cX6_gatherWithin 22 = .ok (.getfield 45, 3) := by decide +kernel
theorem dX6_gatherWithin_25 : decode cX6_gatherWithin 25 = .ok (.bipush 100, 2) := by decide +kernel
theorem dX6_gatherWithin_27 : decode cX6_gatherWithin 27 = .ok (.iload_n 2, 1) := by decide +kernel
theorem dX6_gatherWithin_28 : decode cX6_gatherWithin 28 = .ok (.iadd, 1) := by decide +kernel
theorem dX6_gatherWithin_29 : decode cX6_gatherWithin 29 = .ok (.if_icmp .eq 46, 3) := by decide +kernel
theorem dX6_gatherWithin_32 : decode cX6_gatherWithin 32 = .ok (.aload_n 0, 1) := by decide +kernel
theorem dX6_gatherWithin_33 : decode cX6_gatherWithin 33 = .ok (.bipush 100, 2) := by decide +kernel
theorem dX6_gatherWithin_35 : decode cX6_gatherWithin 35 = .ok (.iload_n 2, 1) := by decide +kernel
theorem dX6_gatherWithin_36 : decode cX6_gatherWithin 36 = .ok (.iadd, 1) := by decide +kernel
theorem dX6_gatherWithin_37 : decode cX6_gatherWithin 37 = .ok (.putfield 45, 3) := by decide +kernel
theorem dX6_gatherWithin_40 : decode cX6_gatherWithin 40 = .ok (.aload_n 0, 1) := by decide +kernel
theorem dX6_gatherWithin_41 : decode cX6_gatherWithin 41 = .ok (.aload_n 0, 1) := by decide +kernel
theorem dX6_gatherWithin_42 : decode cX6_gatherWithin 42 = .ok (.aload_n 1, 1) := by decide +kernel
theorem dX6_gatherWithin_43 : decode cX6_gatherWithin 43 = .ok (.iload_n 2, 1) := by decide +kernel
theorem dX6_gatherWithin_44 : decode cX6_gatherWithin 44 = .ok (.invokevirtual 57, 3) := by decide +kernel
theorem dX6_gatherWithin_47 : decode cX6_gatherWithin 47 = .ok (.putfield 48, 3) := by decide +kernel
theorem dX6_gatherWithin_50 : decode cX6_gatherWithin 50 = .ok (.aload_n 0, 1) := by decide +kernel
theorem dX6_gatherWithin_51 : decode cX6_gatherWithin 51 = .ok (.getfield 48, 3) := by decide +kernel
theorem dX6_gatherWithin_54 : decode cX6_gatherWithin 54 = .ok (.ifCond .eq 21, 3) := by decide +kernel
theorem dX6_gatherWithin_57 : decode cX6_gatherWithin 57 = .ok (.aload_n 0, 1) := by decide +kernel
theorem dX6_gatherWithin_58 : decode cX6_gatherWithin 58 = .ok (.getfield 12, 3) := by decide +kernel
theorem dX6_gatherWithin_61 : decode cX6_gatherWithin 61 = .ok (.aload_n 1, 1) := by decide +kernel
theorem dX6_gatherWithin_62 : decode cX6_gatherWithin 62 = .ok (.invokevirtual 61, 3) := by decide +kernel
theorem dX6_gatherWithin_65 : decode cX6_gatherWithin 65 = .ok (.ifCond .eq 10, 3) := by decide +kernel
theorem dX6_gatherWithin_68 : decode cX6_gatherWithin 68 = .ok (.aload_n 0, 1) := by decide +kernel
theorem dX6_gatherWithin_69 : decode cX6_gatherWithin 69 = .ok (.getfield 12, 3) := by decide +kernel
theorem dX6_gatherWithin_72 : decode cX6_gatherWithin 72 = .ok (.invokevirtual 65, 3) := by decide +kernel
theorem dX6_gatherWithin_75 : decode cX6_gatherWithin 75 = .ok (.aload_n 0, 1) := by decide +kernel
theorem dX6_gatherWithin_76 : decode cX6_gatherWithin 76 = .ok (.getfield 48, 3) := by decide +kernel
theorem dX6_gatherWithin_79 : decode cX6_gatherWithin 79 = .ok (.ifCond .eq 7, 3) := by decide +kernel
theorem dX6_gatherWithin_82 : decode cX6_gatherWithin 82 = .ok (.iconst 0, 1) := by decide +kernel
theorem dX6_gatherWithin_83 : decode cX6_gatherWithin 83 = .ok (.goto 5, 3) := by decide +kernel
theorem dX6_gatherWithin_86 : decode cX6_gatherWithin 86 = .ok (.bipush (-7), 2) := by decide +kernel
theorem dX6_gatherWithin_88 : decode cX6_gatherWithin 88 = .ok (.ireturn, 1) := by decide +kernel
theorem dX6_enterWithin_0 : decode cX6_enterWithin 0 = .ok (.aload_n 0, 1) := by decide +kernel
theorem dX6_enterWithin_1 : decode cX6_enterWithin 1 = .ok (.invokevirtual 68, 3) := by decide +kernel
theorem dX6_enterWithin_4 : decode cX6_enterWithin 4 = .ok (.iconst 0, 1) := by decide +kernel
theorem dX6_enterWithin_5 : decode cX6_enterWithin 5 = .ok (.istore_n 3, 1) := by decide +kernel
theorem dX6_enterWithin_6 : decode cX6_enterWithin 6 = .ok (.iconst 1, 1) := by decide +kernel
theorem dX6_enterWithin_7 : decode cX6_enterWithin 7 = .ok (.istore 4, 2) := by decide +kernel
theorem dX6_enterWithin_9 : decode cX6_enterWithin 9 = .ok (.iload 4, 2) := by decide +kernel
theorem dX6_enterWithin_11 : decode cX6_enterWithin 11 = .ok (.iload_n 2, 1) := by decide +kernel
theorem dX6_enterWithin_12 : decode cX6_enterWithin 12 = .ok (.if_icmp .gt 52, 3) := by decide +kernel
theorem dX6_enterWithin_15 : decode cX6_enterWithin 15 = .ok (.aload_n 0, 1) := by decide +kernel
theorem dX6_enterWithin_16 : decode cX6_enterWithin 16 = .ok (.getfield 12, 3) := by decide +kernel
theorem dX6_enterWithin_19 : decode cX6_enterWithin 19 = .ok (.getfield 71, 3) := by decide +kernel
theorem dX6_enterWithin_22 : decode cX6_enterWithin 22 = .ok (.getfield 75, 3) := by decide +kernel
theorem dX6_enterWithin_25 : decode cX6_enterWithin 25 = .ok (.istore 5, 2) := by decide +kernel
theorem dX6_enterWithin_27 : decode cX6_enterWithin 27 = .ok (.iload_n 3, 1) := by decide +kernel
theorem dX6_enterWithin_28 : decode cX6_enterWithin 28 = .ok (.istore 6, 2) := by decide +kernel
theorem dX6_enterWithin_30 : decode cX6_enterWithin 30 = .ok (.iload 6, 2) := by decide +kernel
theorem dX6_enterWithin_32 : decode cX6_enterWithin 32 = .ok (.iload 5, 2) := by decide +kernel
theorem dX6_enterWithin_34 : decode cX6_enterWithin 34 = .ok (.if_icmp .ge 21, 3) := by decide +kernel
theorem dX6_enterWithin_37 : decode cX6_enterWithin 37 = .ok (.aload_n 0, 1) := by decide +kernel
theorem dX6_enterWithin_38 : decode cX6_enterWithin 38 = .ok (.aload_n 1, 1) := by decide +kernel
theorem dX6_enterWithin_39 : decode cX6_enterWithin 39 = .ok (.iload 6, 2) := by decide +kernel
theorem dX6_enterWithin_41 : decode cX6_enterWithin 41 = .ok (.invokevirtual 80, 3) := by decide +kernel
theorem dX6_enterWithin_44 : decode cX6_enterWithin 44 = .ok (.ifCond .ne 5, 3) := by decide +kernel
theorem dX6_enterWithin_47 : decode cX6_enterWithin 47 = .ok (.iconst 0, 1) := by decide +kernel
theorem dX6_enterWithin_48 : decode cX6_enterWithin 48 = .ok (.ireturn, 1) := by decide +kernel
theorem dX6_enterWithin_49 : decode cX6_enterWithin 49 = .ok (.iinc 6 1, 3) := by decide +kernel
theorem dX6_enterWithin_52 : decode cX6_enterWithin 52 = .ok (.goto (-22), 3) := by decide +kernel
theorem dX6_enterWithin_55 : decode cX6_enterWithin 55 = .ok (.iload 5, 2) := by decide +kernel
theorem dX6_enterWithin_57 : decode cX6_enterWithin 57 = .ok (.istore_n 3, 1) := by decide +kernel
theorem dX6_enterWithin_58 : decode cX6_enterWithin 58 = .ok (.iinc 4 1, 3) := by decide +kernel
theorem dX6_enterWithin_61 : decode cX6_enterWithin 61 = .ok (.goto (-52), 3) := by decide +kernel
theorem dX6_enterWithin_64 : decode cX6_enterWithin 64 = .ok (.iconst 1, 1) := by decide +kernel
theorem dX6_enterWithin_65 : decode cX6_enterWithin 65 = .ok (.ireturn, 1) := by decide +kernel
theorem dX6_beginWithEmpty_0 : decode cX6_beginWithEmpty 0 = .ok (.aload_n 0, 1) := by decide +kernel
theorem dX6_beginWithEmpty_1 : decode cX6_beginWithEmpty 1 = .ok (.getfield 12, 3) := by decide +kernel
theorem dX6_beginWithEmpty_4 : decode cX6_beginWithEmpty 4 = .ok (.invokevirtual 83, 3) := by decide +kernel
theorem dX6_beginWithEmpty_7 : decode cX6_beginWithEmpty 7 = .ok (.aload_n 0, 1) := by decide +kernel
theorem dX6_beginWithEmpty_8 : decode cX6_beginWithEmpty 8 = .ok (.getfield 21, 3) := by decide +kernel
theorem dX6_beginWithEmpty_11 : decode cX6_beginWithEmpty 11 = .ok (.invokevirtual 86, 3) := by decide +kernel
theorem dX6_beginWithEmpty_14 : decode cX6_beginWithEmpty 14 = .ok (.aload_n 0, 1) := by decide +kernel
theorem dX6_beginWithEmpty_15 : decode cX6_beginWithEmpty 15 = .ok (.getfield 12, 3) := by decide +kernel
theorem dX6_beginWithEmpty_18 : decode cX6_beginWithEmpty 18 = .ok (.aload_n 0, 1) := by decide +kernel
theorem dX6_beginWithEmpty_19 : decode cX6_beginWithEmpty 19 = .ok (.getfield 21, 3) := by decide +kernel
theorem dX6_beginWithEmpty_22 : decode cX6_beginWithEmpty 22 = .ok (.invokevirtual 89, 3) := by decide +kernel
theorem dX6_beginWithEmpty_25 : decode cX6_beginWithEmpty 25 = .ok (.pop, 1) := by decide +kernel
theorem dX6_beginWithEmpty_26 : decode cX6_beginWithEmpty 26 = .ok (.return_, 1) := by decide +kernel
theorem dX6_extend_0 : decode cX6_extend 0 = .ok (.iconst 0, 1) := by decide +kernel
theorem dX6_extend_1 : decode cX6_extend 1 = .ok (.istore_n 3, 1) := by decide +kernel
theorem dX6_extend_2 : decode cX6_extend 2 = .ok (.iload_n 3, 1) := by decide +kernel
theorem dX6_extend_3 : decode cX6_extend 3 = .ok (.aload_n 1, 1) := by decide +kernel
theorem dX6_extend_4 : decode cX6_extend 4 = .ok (.getfield 93, 3) := by decide +kernel
theorem dX6_extend_7 : decode cX6_extend 7 = .ok (.if_icmp .ge 72, 3) := by decide +kernel
theorem dX6_extend_10 : decode cX6_extend 10 = .ok (.aload_n 0, 1) := by decide +kernel
theorem dX6_extend_11 : decode cX6_extend 11 = .ok (.getfield 12, 3) := by decide +kernel
theorem dX6_extend_14 : decode cX6_extend 14 = .ok (.iload_n 2, 1) := by decide +kernel
theorem dX6_extend_15 : decode cX6_extend 15 = .ok (.aload_n 0, 1) := by decide +kernel
theorem dX6_extend_16 : decode cX6_extend 16 = .ok (.getfield 21, 3) := by decide +kernel
theorem dX6_extend_19 : decode cX6_extend 19 = .ok (.invokevirtual 96, 3) := by decide +kernel
theorem dX6_extend_22 : decode cX6_extend 22 = .ok (.aload_n 0, 1) := by decide +kernel
theorem dX6_extend_23 : decode cX6_extend 23 = .ok (.getfield 21, 3) := by decide +kernel
theorem dX6_extend_26 : decode cX6_extend 26 = .ok (.getfield 100, 3) := by decide +kernel
theorem dX6_extend_29 : decode cX6_extend 29 = .ok (.istore 4, 2) := by decide +kernel
theorem dX6_extend_31 : decode cX6_extend 31 = .ok (.aload_n 0, 1) := by decide +kernel
theorem dX6_extend_32 : decode cX6_extend 32 = .ok (.getfield 21, 3) := by decide +kernel
theorem dX6_extend_35 : decode cX6_extend 35 = .ok (.aload_n 1, 1) := by decide +kernel
theorem dX6_extend_36 : decode cX6_extend 36 = .ok (.getfield 103, 3) := by decide +kernel
theorem dX6_extend_39 : decode cX6_extend 39 = .ok (.iload_n 3, 1) := by decide +kernel
theorem dX6_extend_40 : decode cX6_extend 40 = .ok (.iaload, 1) := by decide +kernel
theorem dX6_extend_41 : decode cX6_extend 41 = .ok (.invokevirtual 106, 3) := by decide +kernel
theorem dX6_extend_44 : decode cX6_extend 44 = .ok (.pop, 1) := by decide +kernel
theorem dX6_extend_45 : decode cX6_extend 45 = .ok (.aload_n 0, 1) := by decide +kernel
theorem dX6_extend_46 : decode cX6_extend 46 = .ok (.getfield 21, 3) := by decide +kernel
theorem dX6_extend_49 : decode cX6_extend 49 = .ok (.getfield 100, 3) := by decide +kernel
theorem dX6_extend_52 : decode cX6_extend 52 = .ok (.iload 4, 2) := by decide +kernel
theorem dX6_extend_54 : decode cX6_extend 54 = .ok (.if_icmp .le 19, 3) := by decide +kernel
theorem dX6_extend_57 : decode cX6_extend 57 = .ok (.aload_n 0, 1) := by decide +kernel
theorem dX6_extend_58 : decode cX6_extend 58 = .ok (.getfield 12, 3) := by decide +kernel
theorem dX6_extend_61 : decode cX6_extend 61 = .ok (.aload_n 0, 1) := by decide +kernel
theorem dX6_extend_62 : decode cX6_extend 62 = .ok (.getfield 21, 3) := by decide +kernel
theorem dX6_extend_65 : decode cX6_extend 65 = .ok (.invokevirtual 89, 3) := by decide +kernel
theorem dX6_extend_68 : decode cX6_extend 68 = .ok (.ifCond .ge 5, 3) := by decide +kernel
theorem dX6_extend_71 : decode cX6_extend 71 = .ok (.iconst 0, 1) := by decide +kernel
theorem dX6_extend_72 : decode cX6_extend 72 = .ok (.ireturn, 1) := by decide +kernel
theorem dX6_extend_73 : decode cX6_extend 73 = .ok (.iinc 3 1, 3) := by decide +kernel
theorem dX6_extend_76 : decode cX6_extend 76 = .ok (.goto (-74), 3) := by decide +kernel
theorem dX6_extend_79 : decode cX6_extend 79 = .ok (.iconst 1, 1) := by decide +kernel
theorem dX6_extend_80 : decode cX6_extend 80 = .ok (.ireturn, 1) := by decide +kernel
theorem dX6_isLaw_0 : decode cX6_isLaw 0 = .ok (.iload_n 1, 1) := by decide +kernel
theorem dX6_isLaw_1 : decode cX6_isLaw 1 = .ok (.ifCond .le 19, 3) := by decide +kernel
theorem dX6_isLaw_4 : decode cX6_isLaw 4 = .ok (.aload_n 0, 1) := by decide +kernel
theorem dX6_isLaw_5 : decode cX6_isLaw 5 = .ok (.getfield 12, 3) := by decide +kernel
theorem dX6_isLaw_8 : decode cX6_isLaw 8 = .ok (.iload_n 1, 1) := by decide +kernel
theorem dX6_isLaw_9 : decode cX6_isLaw 9 = .ok (.iconst 0, 1) := by decide +kernel
theorem dX6_isLaw_10 : decode cX6_isLaw 10 = .ok (.invokevirtual 110, 3) := by decide +kernel
theorem dX6_isLaw_13 : decode cX6_isLaw 13 = .ok (.ifCond .eq 7, 3) := by decide +kernel
theorem dX6_isLaw_16 : decode cX6_isLaw 16 = .ok (.iconst 1, 1) := by decide +kernel
theorem dX6_isLaw_17 : decode cX6_isLaw 17 = .ok (.goto 4, 3) := by decide +kernel
theorem dX6_isLaw_20 : decode cX6_isLaw 20 = .ok (.iconst 0, 1) := by decide +kernel
theorem dX6_isLaw_21 : decode cX6_isLaw 21 = .ok (.ireturn, 1) := by decide +kernel
theorem dX6_countLaws_0 : decode cX6_countLaws 0 = .ok (.iconst 0, 1) := by decide +kernel
theorem dX6_countLaws_1 : decode cX6_countLaws 1 = .ok (.istore_n 1, 1) := by decide +kernel
theorem dX6_countLaws_2 : decode cX6_countLaws 2 = .ok (.iconst 0, 1) := by decide +kernel
theorem dX6_countLaws_3 : decode cX6_countLaws 3 = .ok (.istore_n 2, 1) := by decide +kernel
theorem dX6_countLaws_4 : decode cX6_countLaws 4 = .ok (.iload_n 2, 1) := by decide +kernel
theorem dX6_countLaws_5 : decode cX6_countLaws 5 = .ok (.aload_n 0, 1) := by decide +kernel
theorem dX6_countLaws_6 : decode cX6_countLaws 6 = .ok (.getfield 12, 3) := by decide +kernel
theorem dX6_countLaws_9 : decode cX6_countLaws 9 = .ok (.getfield 71, 3) := by decide +kernel
theorem dX6_countLaws_12 : decode cX6_countLaws 12 = .ok (.getfield 75, 3) := by decide +kernel
theorem dX6_countLaws_15 : decode cX6_countLaws 15 = .ok (.if_icmp .ge 20, 3) := by decide +kernel
theorem dX6_countLaws_18 : decode cX6_countLaws 18 = .ok (.aload_n 0, 1) := by decide +kernel
theorem dX6_countLaws_19 : decode cX6_countLaws 19 = .ok (.iload_n 2, 1) := by decide +kernel
theorem dX6_countLaws_20 : decode cX6_countLaws 20 = .ok (.invokevirtual 114, 3) := by decide +kernel
theorem dX6_countLaws_23 : decode cX6_countLaws 23 = .ok (.ifCond .eq 6, 3) := by decide +kernel
theorem dX6_countLaws_26 : decode cX6_countLaws 26 = .ok (.iinc 1 1, 3) := by decide +kernel
theorem dX6_countLaws_29 : decode cX6_countLaws 29 = .ok (.iinc 2 1, 3) := by decide +kernel
theorem dX6_countLaws_32 : decode cX6_countLaws 32 = .ok (.goto (-28), 3) := by decide +kernel
theorem dX6_countLaws_35 : decode cX6_countLaws 35 = .ok (.iload_n 1, 1) := by decide +kernel
theorem dX6_countLaws_36 : decode cX6_countLaws 36 = .ok (.ireturn, 1) := by decide +kernel
theorem dX6_findLaw_0 : decode cX6_findLaw 0 = .ok (.iconst 0, 1) := by decide +kernel
theorem dX6_findLaw_1 : decode cX6_findLaw 1 = .ok (.istore_n 2, 1) := by decide +kernel
theorem dX6_findLaw_2 : decode cX6_findLaw 2 = .ok (.iconst 0, 1) := by decide +kernel
theorem dX6_findLaw_3 : decode cX6_findLaw 3 = .ok (.istore_n 3, 1) := by decide +kernel
theorem dX6_findLaw_4 : decode cX6_findLaw 4 = .ok (.iload_n 3, 1) := by decide +kernel
theorem dX6_findLaw_5 : decode cX6_findLaw 5 = .ok (.aload_n 0, 1) := by decide +kernel
theorem dX6_findLaw_6 : decode cX6_findLaw 6 = .ok (.getfield 12, 3) := by decide +kernel
theorem dX6_findLaw_9 : decode cX6_findLaw 9 = .ok (.getfield 71, 3) := by decide +kernel
theorem dX6_findLaw_12 : decode cX6_findLaw 12 = .ok (.getfield 75, 3) := by decide +kernel
theorem dX6_findLaw_15 : decode cX6_findLaw 15 = .ok (.if_icmp .ge 27, 3) := by decide +kernel
theorem dX6_findLaw_18 : decode cX6_findLaw 18 = .ok (.aload_n 0, 1) := by decide +kernel
theorem dX6_findLaw_19 : decode cX6_findLaw 19 = .ok (.iload_n 3, 1) := by decide +kernel
theorem dX6_findLaw_20 : decode cX6_findLaw 20 = .ok (.invokevirtual 114, 3) := by decide +kernel
theorem dX6_findLaw_23 : decode cX6_findLaw 23 = .ok (.ifCond .eq 13, 3) := by decide +kernel
theorem dX6_findLaw_26 : decode cX6_findLaw 26 = .ok (.iload_n 2, 1) := by decide +kernel
theorem dX6_findLaw_27 : decode cX6_findLaw 27 = .ok (.iload_n 1, 1) := by decide +kernel
theorem dX6_findLaw_28 : decode cX6_findLaw 28 = .ok (.if_icmp .ne 5, 3) := by decide +kernel
theorem dX6_findLaw_31 : decode cX6_findLaw 31 = .ok (.iload_n 3, 1) := by decide +kernel
theorem dX6_findLaw_32 : decode cX6_findLaw 32 = .ok (.ireturn, 1) := by decide +kernel
theorem dX6_findLaw_33 : decode cX6_findLaw 33 = .ok (.iinc 2 1, 3) := by decide +kernel
theorem dX6_findLaw_36 : decode cX6_findLaw 36 = .ok (.iinc 3 1, 3) := by decide +kernel
theorem dX6_findLaw_39 : decode cX6_findLaw 39 = .ok (.goto (-35), 3) := by decide +kernel
theorem dX6_findLaw_42 : decode cX6_findLaw 42 = .ok (.iconst (-1), 1) := by decide +kernel
theorem dX6_findLaw_43 : decode cX6_findLaw 43 = .ok (.ireturn, 1) := by decide +kernel
theorem dX6_gatherFallen_0 : decode cX6_gatherFallen 0 = .ok (.iload_n 2, 1) := by decide +kernel
theorem dX6_gatherFallen_1 : decode cX6_gatherFallen 1 = .ok (.iconst 1, 1) := by decide +kernel
theorem dX6_gatherFallen_2 : decode cX6_gatherFallen 2 = .ok (.if_icmp .lt 8, 3) := by decide +kernel
theorem dX6_gatherFallen_5 : decode cX6_gatherFallen 5 = .ok (.iload_n 2, 1) := by decide +kernel
theorem dX6_gatherFallen_6 : decode cX6_gatherFallen 6 = .ok (.iconst 2, 1) := by decide +kernel
theorem dX6_gatherFallen_7 : decode cX6_gatherFallen 7 = .ok (.if_icmp .le 5, 3) := by decide +kernel
theorem dX6_gatherFallen_10 : decode cX6_gatherFallen 10 = .ok (.iconst (-1), 1) := by decide +kernel
theorem dX6_gatherFallen_11 : decode cX6_gatherFallen 11 = .ok (.ireturn, 1) := by decide +kernel
theorem dX6_gatherFallen_12 : decode cX6_gatherFallen 12 = .ok (.aload_n 1, 1) := by decide +kernel
theorem dX6_gatherFallen_13 : decode cX6_gatherFallen 13 = .ok (.getfield 52, 3) := by decide +kernel
theorem dX6_gatherFallen_16 : decode cX6_gatherFallen 16 = .ok (.ifCond .ne 6, 3) := by decide +kernel
theorem dX6_gatherFallen_19 : decode cX6_gatherFallen 19 = .ok (.bipush (-5), 2) := by decide +kernel
theorem dX6_gatherFallen_21 : decode cX6_gatherFallen 21 = .ok (.ireturn, 1) := by decide +kernel
theorem dX6_gatherFallen_22 : decode cX6_gatherFallen 22 = .ok (.aload_n 0, 1) := by decide +kernel
theorem dX6_gatherFallen_23 : decode cX6_gatherFallen 23 = .ok (.getfield 45, 3) := by decide +kernel
theorem dX6_gatherFallen_26 : decode cX6_gatherFallen 26 = .ok (.sipush 200, 3) := by decide +kernel
theorem dX6_gatherFallen_29 : decode cX6_gatherFallen 29 = .ok (.iload_n 2, 1) := by decide +kernel
theorem dX6_gatherFallen_30 : decode cX6_gatherFallen 30 = .ok (.iadd, 1) := by decide +kernel
theorem dX6_gatherFallen_31 : decode cX6_gatherFallen 31 = .ok (.if_icmp .eq 147, 3) := by decide +kernel
theorem dX6_gatherFallen_34 : decode cX6_gatherFallen 34 = .ok (.aload_n 0, 1) := by decide +kernel
theorem dX6_gatherFallen_35 : decode cX6_gatherFallen 35 = .ok (.sipush 200, 3) := by decide +kernel
theorem dX6_gatherFallen_38 : decode cX6_gatherFallen 38 = .ok (.iload_n 2, 1) := by decide +kernel
theorem dX6_gatherFallen_39 : decode cX6_gatherFallen 39 = .ok (.iadd, 1) := by decide +kernel
theorem dX6_gatherFallen_40 : decode cX6_gatherFallen 40 = .ok (.putfield 45, 3) := by decide +kernel
theorem dX6_gatherFallen_43 : decode cX6_gatherFallen 43 = .ok (.aload_n 0, 1) := by decide +kernel
theorem dX6_gatherFallen_44 : decode cX6_gatherFallen 44 = .ok (.invokevirtual 68, 3) := by decide +kernel
theorem dX6_gatherFallen_47 : decode cX6_gatherFallen 47 = .ok (.aload_n 0, 1) := by decide +kernel
theorem dX6_gatherFallen_48 : decode cX6_gatherFallen 48 = .ok (.aload_n 0, 1) := by decide +kernel
theorem dX6_gatherFallen_49 : decode cX6_gatherFallen 49 = .ok (.aload_n 1, 1) := by decide +kernel
theorem dX6_gatherFallen_50 : decode cX6_gatherFallen 50 = .ok (.iconst 0, 1) := by decide +kernel
theorem dX6_gatherFallen_51 : decode cX6_gatherFallen 51 = .ok (.invokevirtual 80, 3) := by decide +kernel
theorem dX6_gatherFallen_54 : decode cX6_gatherFallen 54 = .ok (.ifCond .eq 18, 3) := by decide +kernel
theorem dX6_gatherFallen_57 : decode cX6_gatherFallen 57 = .ok (.aload_n 0, 1) := by decide +kernel
theorem dX6_gatherFallen_58 : decode cX6_gatherFallen 58 = .ok (.getfield 12, 3) := by decide +kernel
theorem dX6_gatherFallen_61 : decode cX6_gatherFallen 61 = .ok (.aload_n 1, 1) := by decide +kernel
theorem dX6_gatherFallen_62 : decode cX6_gatherFallen 62 = .ok (.invokevirtual 61, 3) := by decide +kernel
theorem dX6_gatherFallen_65 : decode cX6_gatherFallen 65 = .ok (.ifCond .eq 7, 3) := by decide +kernel
theorem dX6_gatherFallen_68 : decode cX6_gatherFallen 68 = .ok (.iconst 1, 1) := by decide +kernel
theorem dX6_gatherFallen_69 : decode cX6_gatherFallen 69 = .ok (.goto 4, 3) := by decide +kernel
theorem dX6_gatherFallen_72 : decode cX6_gatherFallen 72 = .ok (.iconst 0, 1) := by decide +kernel
theorem dX6_gatherFallen_73 : decode cX6_gatherFallen 73 = .ok (.putfield 48, 3) := by decide +kernel
theorem dX6_gatherFallen_76 : decode cX6_gatherFallen 76 = .ok (.aload_n 0, 1) := by decide +kernel
theorem dX6_gatherFallen_77 : decode cX6_gatherFallen 77 = .ok (.aload_n 0, 1) := by decide +kernel
theorem dX6_gatherFallen_78 : decode cX6_gatherFallen 78 = .ok (.getfield 12, 3) := by decide +kernel
theorem dX6_gatherFallen_81 : decode cX6_gatherFallen 81 = .ok (.getfield 71, 3) := by decide +kernel
theorem dX6_gatherFallen_84 : decode cX6_gatherFallen 84 = .ok (.getfield 75, 3) := by decide +kernel
theorem dX6_gatherFallen_87 : decode cX6_gatherFallen 87 = .ok (.bipush 20, 2) := by decide +kernel
theorem dX6_gatherFallen_89 : decode cX6_gatherFallen 89 = .ok (.invokestatic 117, 3) := by decide +kernel
theorem dX6_gatherFallen_92 : decode cX6_gatherFallen 92 = .ok (.putfield 38, 3) := by decide +kernel
theorem dX6_gatherFallen_95 : decode cX6_gatherFallen 95 = .ok (.iconst 0, 1) := by decide +kernel
theorem dX6_gatherFallen_96 : decode cX6_gatherFallen 96 = .ok (.istore_n 3, 1) := by decide +kernel
theorem dX6_gatherFallen_97 : decode cX6_gatherFallen 97 = .ok (.iload_n 3, 1) := by decide +kernel
theorem dX6_gatherFallen_98 : decode cX6_gatherFallen 98 = .ok (.aload_n 0, 1) := by decide +kernel
theorem dX6_gatherFallen_99 : decode cX6_gatherFallen 99 = .ok (.getfield 38, 3) := by decide +kernel
theorem dX6_gatherFallen_102 : decode cX6_gatherFallen 102 = .ok (.if_icmp .ge 16, 3) := by decide +kernel
theorem dX6_gatherFallen_105 : decode cX6_gatherFallen 105 = .ok (.aload_n 0, 1) := by decide +kernel
theorem dX6_gatherFallen_106 : decode cX6_gatherFallen 106 = .ok (.getfield 28, 3) := by decide +kernel
theorem dX6_gatherFallen_109 : decode cX6_gatherFallen 109 = .ok (.iload_n 3, 1) := by decide +kernel
theorem dX6_gatherFallen_110 : decode cX6_gatherFallen 110 = .ok (.iload_n 3, 1) := by decide +kernel
theorem dX6_gatherFallen_111 : decode cX6_gatherFallen 111 = .ok (.iastore, 1) := by decide +kernel
theorem dX6_gatherFallen_112 : decode cX6_gatherFallen 112 = .ok (.iinc 3 1, 3) := by decide +kernel
theorem dX6_gatherFallen_115 : decode cX6_gatherFallen 115 = .ok (.goto (-18), 3) := by decide +kernel
theorem dX6_gatherFallen_118 : decode cX6_gatherFallen 118 = .ok (.iconst 0, 1) := by decide +kernel
theorem dX6_gatherFallen_119 : decode cX6_gatherFallen 119 = .ok (.istore_n 3, 1) := by decide +kernel
theorem dX6_gatherFallen_120 : decode cX6_gatherFallen 120 = .ok (.iload_n 3, 1) := by decide +kernel
theorem dX6_gatherFallen_121 : decode cX6_gatherFallen 121 = .ok (.aload_n 0, 1) := by decide +kernel
theorem dX6_gatherFallen_122 : decode cX6_gatherFallen 122 = .ok (.getfield 38, 3) := by decide +kernel
theorem dX6_gatherFallen_125 : decode cX6_gatherFallen 125 = .ok (.if_icmp .ge 53, 3) := by decide +kernel
theorem dX6_gatherFallen_128 : decode cX6_gatherFallen 128 = .ok (.iload_n 3, 1) := by decide +kernel
theorem dX6_gatherFallen_129 : decode cX6_gatherFallen 129 = .ok (.bipush 20, 2) := by decide +kernel
theorem dX6_gatherFallen_131 : decode cX6_gatherFallen 131 = .ok (.if_icmp .ge 47, 3) := by decide +kernel
theorem dX6_gatherFallen_134 : decode cX6_gatherFallen 134 = .ok (.aload_n 0, 1) := by decide +kernel
theorem dX6_gatherFallen_135 : decode cX6_gatherFallen 135 = .ok (.getfield 48, 3) := by decide +kernel
theorem dX6_gatherFallen_138 : decode cX6_gatherFallen 138 = .ok (.ifCond .eq 40, 3) := by decide +kernel
theorem dX6_gatherFallen_141 : decode cX6_gatherFallen 141 = .ok (.aload_n 0, 1) := by decide +kernel
theorem dX6_gatherFallen_142 : decode cX6_gatherFallen 142 = .ok (.aload_n 0, 1) := by decide +kernel
theorem dX6_gatherFallen_143 : decode cX6_gatherFallen 143 = .ok (.aload_n 1, 1) := by decide +kernel
theorem dX6_gatherFallen_144 : decode cX6_gatherFallen 144 = .ok (.aload_n 0, 1) := by decide +kernel
theorem dX6_gatherFallen_145 : decode cX6_gatherFallen 145 = .ok (.getfield 28, 3) := by decide +kernel
theorem dX6_gatherFallen_148 : decode cX6_gatherFallen 148 = .ok (.iload_n 3, 1) := by decide +kernel
theorem dX6_gatherFallen_149 : decode cX6_gatherFallen 149 = .ok (.iaload, 1) := by decide +kernel
theorem dX6_gatherFallen_150 : decode cX6_gatherFallen 150 = .ok (.iload_n 2, 1) := by decide +kernel
theorem dX6_gatherFallen_151 : decode cX6_gatherFallen 151 = .ok (.invokevirtual 123, 3) := by decide +kernel
theorem dX6_gatherFallen_154 : decode cX6_gatherFallen 154 = .ok (.ifCond .eq 14, 3) := by decide +kernel
theorem dX6_gatherFallen_157 : decode cX6_gatherFallen 157 = .ok (.aload_n 0, 1) := by decide +kernel
theorem dX6_gatherFallen_158 : decode cX6_gatherFallen 158 = .ok (.invokevirtual 127, 3) := by decide +kernel
theorem dX6_gatherFallen_161 : decode cX6_gatherFallen 161 = .ok (.ifCond .eq 7, 3) := by decide +kernel
theorem dX6_gatherFallen_164 : decode cX6_gatherFallen 164 = .ok (.iconst 1, 1) := by decide +kernel
theorem dX6_gatherFallen_165 : decode cX6_gatherFallen 165 = .ok (.goto 4, 3) := by decide +kernel
theorem dX6_gatherFallen_168 : decode cX6_gatherFallen 168 = .ok (.iconst 0, 1) := by decide +kernel
theorem dX6_gatherFallen_169 : decode cX6_gatherFallen 169 = .ok (.putfield 48, 3) := by decide +kernel
theorem dX6_gatherFallen_172 : decode cX6_gatherFallen 172 = .ok (.iinc 3 1, 3) := by decide +kernel
theorem dX6_gatherFallen_175 : decode cX6_gatherFallen 175 = .ok (.goto (-55), 3) := by decide +kernel
theorem dX6_gatherFallen_178 : decode cX6_gatherFallen 178 = .ok (.aload_n 0, 1) := by decide +kernel
theorem dX6_gatherFallen_179 : decode cX6_gatherFallen 179 = .ok (.getfield 48, 3) := by decide +kernel
theorem dX6_gatherFallen_182 : decode cX6_gatherFallen 182 = .ok (.ifCond .eq 7, 3) := by decide +kernel
theorem dX6_gatherFallen_185 : decode cX6_gatherFallen 185 = .ok (.iconst 0, 1) := by decide +kernel
theorem dX6_gatherFallen_186 : decode cX6_gatherFallen 186 = .ok (.goto 5, 3) := by decide +kernel
theorem dX6_gatherFallen_189 : decode cX6_gatherFallen 189 = .ok (.bipush (-7), 2) := by decide +kernel
theorem dX6_gatherFallen_191 : decode cX6_gatherFallen 191 = .ok (.ireturn, 1) := by decide +kernel
theorem dX6_lookAtParts_0 : decode cX6_lookAtParts 0 = .ok (.iload_n 3, 1) := by decide +kernel
theorem dX6_lookAtParts_1 : decode cX6_lookAtParts 1 = .ok (.iconst 1, 1) := by decide +kernel
theorem dX6_lookAtParts_2 : decode cX6_lookAtParts 2 = .ok (.if_icmp .ne 7, 3) := by decide +kernel
theorem dX6_lookAtParts_5 : decode cX6_lookAtParts 5 = .ok (.iconst 1, 1) := by decide +kernel
theorem dX6_lookAtParts_6 : decode cX6_lookAtParts 6 = .ok (.goto 7, 3) := by decide +kernel
theorem dX6_lookAtParts_9 : decode cX6_lookAtParts 9 = .ok (.aload_n 1, 1) := by decide +kernel
theorem dX6_lookAtParts_10 : decode cX6_lookAtParts 10 = .ok (.getfield 131, 3) := by decide +kernel
theorem dX6_lookAtParts_13 : decode cX6_lookAtParts 13 = .ok (.istore 4, 2) := by decide +kernel
theorem dX6_lookAtParts_15 : decode cX6_lookAtParts 15 = .ok (.aload_n 0, 1) := by decide +kernel
theorem dX6_lookAtParts_16 : decode cX6_lookAtParts 16 = .ok (.iconst 0, 1) := by decide +kernel
theorem dX6_lookAtParts_17 : decode cX6_lookAtParts 17 = .ok (.putfield 42, 3) := by decide +kernel
theorem dX6_lookAtParts_20 : decode cX6_lookAtParts 20 = .ok (.iconst 0, 1) := by decide +kernel
theorem dX6_lookAtParts_21 : decode cX6_lookAtParts 21 = .ok (.istore 5, 2) := by decide +kernel
theorem dX6_lookAtParts_23 : decode cX6_lookAtParts 23 = .ok (.iload 5, 2) := by decide +kernel
theorem dX6_lookAtParts_25 : decode cX6_lookAtParts 25 = .ok (.aload_n 1, 1) := by decide +kernel
theorem dX6_lookAtParts_26 : decode cX6_lookAtParts 26 = .ok (.getfield 93, 3) := by decide +kernel
theorem dX6_lookAtParts_29 : decode cX6_lookAtParts 29 = .ok (.if_icmp .ge 151, 3) := by decide +kernel
theorem dX6_lookAtParts_32 : decode cX6_lookAtParts 32 = .ok (.aload_n 0, 1) := by decide +kernel
theorem dX6_lookAtParts_33 : decode cX6_lookAtParts 33 = .ok (.getfield 12, 3) := by decide +kernel
theorem dX6_lookAtParts_36 : decode cX6_lookAtParts 36 = .ok (.iload_n 2, 1) := by decide +kernel
theorem dX6_lookAtParts_37 : decode cX6_lookAtParts 37 = .ok (.aload_n 0, 1) := by decide +kernel
theorem dX6_lookAtParts_38 : decode cX6_lookAtParts 38 = .ok (.getfield 21, 3) := by decide +kernel
theorem dX6_lookAtParts_41 : decode cX6_lookAtParts 41 = .ok (.invokevirtual 96, 3) := by decide +kernel
theorem dX6_lookAtParts_44 : decode cX6_lookAtParts 44 = .ok (.aload_n 0, 1) := by decide +kernel
theorem dX6_lookAtParts_45 : decode cX6_lookAtParts 45 = .ok (.getfield 21, 3) := by decide +kernel
theorem dX6_lookAtParts_48 : decode cX6_lookAtParts 48 = .ok (.aload_n 1, 1) := by decide +kernel
theorem dX6_lookAtParts_49 : decode cX6_lookAtParts 49 = .ok (.getfield 103, 3) := by decide +kernel
theorem dX6_lookAtParts_52 : decode cX6_lookAtParts 52 = .ok (.iload 5, 2) := by decide +kernel
theorem dX6_lookAtParts_54 : decode cX6_lookAtParts 54 = .ok (.iaload, 1) := by decide +kernel
theorem dX6_lookAtParts_55 : decode cX6_lookAtParts 55 = .ok (.invokevirtual 106, 3) := by decide +kernel
theorem dX6_lookAtParts_58 : decode cX6_lookAtParts 58 = .ok (.ifCond .ne 5, 3) := by decide +kernel
theorem dX6_lookAtParts_61 : decode cX6_lookAtParts 61 = .ok (.iconst 0, 1) := by decide +kernel
theorem dX6_lookAtParts_62 : decode cX6_lookAtParts 62 = .ok (.ireturn, 1) := by decide +kernel
theorem dX6_lookAtParts_63 : decode cX6_lookAtParts 63 = .ok (.iconst 0, 1) := by decide +kernel
theorem dX6_lookAtParts_64 : decode cX6_lookAtParts 64 = .ok (.istore 6, 2) := by decide +kernel
theorem dX6_lookAtParts_66 : decode cX6_lookAtParts 66 = .ok (.iload 6, 2) := by decide +kernel
theorem dX6_lookAtParts_68 : decode cX6_lookAtParts 68 = .ok (.iload 4, 2) := by decide +kernel
theorem dX6_lookAtParts_70 : decode cX6_lookAtParts 70 = .ok (.if_icmp .ge 104, 3) := by decide +kernel
theorem dX6_lookAtParts_73 : decode cX6_lookAtParts 73 = .ok (.iconst 0, 1) := by decide +kernel
theorem dX6_lookAtParts_74 : decode cX6_lookAtParts 74 = .ok (.istore 7, 2) := by decide +kernel
theorem dX6_lookAtParts_76 : decode cX6_lookAtParts 76 = .ok (.iload 7, 2) := by decide +kernel
theorem dX6_lookAtParts_78 : decode cX6_lookAtParts 78 = .ok (.aload_n 1, 1) := by decide +kernel
theorem dX6_lookAtParts_79 : decode cX6_lookAtParts 79 = .ok (.getfield 131, 3) := by decide +kernel
theorem dX6_lookAtParts_82 : decode cX6_lookAtParts 82 = .ok (.if_icmp .ge 86, 3) := by decide +kernel
theorem dX6_lookAtParts_85 : decode cX6_lookAtParts 85 = .ok (.aload_n 0, 1) := by decide +kernel
theorem dX6_lookAtParts_86 : decode cX6_lookAtParts 86 = .ok (.getfield 25, 3) := by decide +kernel
theorem dX6_lookAtParts_89 : decode cX6_lookAtParts 89 = .ok (.aload_n 0, 1) := by decide +kernel
theorem dX6_lookAtParts_90 : decode cX6_lookAtParts 90 = .ok (.getfield 21, 3) := by decide +kernel
theorem dX6_lookAtParts_93 : decode cX6_lookAtParts 93 = .ok (.invokevirtual 134, 3) := by decide +kernel
theorem dX6_lookAtParts_96 : decode cX6_lookAtParts 96 = .ok (.iload_n 3, 1) := by decide +kernel
theorem dX6_lookAtParts_97 : decode cX6_lookAtParts 97 = .ok (.iconst 1, 1) := by decide +kernel
theorem dX6_lookAtParts_98 : decode cX6_lookAtParts 98 = .ok (.if_icmp .le 14, 3) := by decide +kernel
theorem dX6_lookAtParts_101 : decode cX6_lookAtParts 101 = .ok (.aload_n 0, 1) := by decide +kernel
theorem dX6_lookAtParts_102 : decode cX6_lookAtParts 102 = .ok (.getfield 25, 3) := by decide +kernel
theorem dX6_lookAtParts_105 : decode cX6_lookAtParts 105 = .ok (.aload_n 1, 1) := by decide +kernel
theorem dX6_lookAtParts_106 : decode cX6_lookAtParts 106 = .ok (.iload 6, 2) := by decide +kernel
theorem dX6_lookAtParts_108 : decode cX6_lookAtParts 108 = .ok (.invokevirtual 138, 3) := by decide +kernel
theorem dX6_lookAtParts_111 : decode cX6_lookAtParts 111 = .ok (.pop, 1) := by decide +kernel
theorem dX6_lookAtParts_112 : decode cX6_lookAtParts 112 = .ok (.aload_n 0, 1) := by decide +kernel
theorem dX6_lookAtParts_113 : decode cX6_lookAtParts 113 = .ok (.getfield 25, 3) := by decide +kernel
theorem dX6_lookAtParts_116 : decode cX6_lookAtParts 116 = .ok (.aload_n 1, 1) := by decide +kernel
theorem dX6_lookAtParts_117 : decode cX6_lookAtParts 117 = .ok (.iload 7, 2) := by decide +kernel
theorem dX6_lookAtParts_119 : decode cX6_lookAtParts 119 = .ok (.invokevirtual 138, 3) := by decide +kernel
theorem dX6_lookAtParts_122 : decode cX6_lookAtParts 122 = .ok (.pop, 1) := by decide +kernel
theorem dX6_lookAtParts_123 : decode cX6_lookAtParts 123 = .ok (.aload_n 0, 1) := by decide +kernel
theorem dX6_lookAtParts_124 : decode cX6_lookAtParts 124 = .ok (.getfield 12, 3) := by decide +kernel
theorem dX6_lookAtParts_127 : decode cX6_lookAtParts 127 = .ok (.aload_n 1, 1) := by decide +kernel
theorem dX6_lookAtParts_128 : decode cX6_lookAtParts 128 = .ok (.aload_n 0, 1) := by decide +kernel
theorem dX6_lookAtParts_129 : decode cX6_lookAtParts 129 = .ok (.getfield 25, 3) := by decide +kernel
theorem dX6_lookAtParts_132 : decode cX6_lookAtParts 132 = .ok (.invokevirtual 142, 3) := by decide +kernel
theorem dX6_lookAtParts_135 : decode cX6_lookAtParts 135 = .ok (.istore 8, 2) := by decide +kernel
theorem dX6_lookAtParts_137 : decode cX6_lookAtParts 137 = .ok (.iload 8, 2) := by decide +kernel
theorem dX6_lookAtParts_139 : decode cX6_lookAtParts 139 = .ok (.ifCond .ge 5, 3) := by decide +kernel
theorem dX6_lookAtParts_142 : decode cX6_lookAtParts 142 = .ok (.iconst 0, 1) := by decide +kernel
theorem dX6_lookAtParts_143 : decode cX6_lookAtParts 143 = .ok (.ireturn, 1) := by decide +kernel
theorem dX6_lookAtParts_144 : decode cX6_lookAtParts 144 = .ok (.aload_n 0, 1) := by decide +kernel
theorem dX6_lookAtParts_145 : decode cX6_lookAtParts 145 = .ok (.getfield 32, 3) := by decide +kernel
theorem dX6_lookAtParts_148 : decode cX6_lookAtParts 148 = .ok (.aload_n 0, 1) := by decide +kernel
theorem dX6_lookAtParts_149 : decode cX6_lookAtParts 149 = .ok (.dup, 1) := by decide +kernel
theorem dX6_lookAtParts_150 : decode cX6_lookAtParts 150 = .ok (.getfield 42, 3) := by decide +kernel
theorem dX6_lookAtParts_153 : decode cX6_lookAtParts 153 = .ok (.dup_x1, 1) := by decide +kernel
theorem dX6_lookAtParts_154 : decode cX6_lookAtParts 154 = .ok (.iconst 1, 1) := by decide +kernel
theorem dX6_lookAtParts_155 : decode cX6_lookAtParts 155 = .ok (.iadd, 1) := by decide +kernel
theorem dX6_lookAtParts_156 : decode cX6_lookAtParts 156 = .ok (.putfield 42, 3) := by decide +kernel
theorem dX6_lookAtParts_159 : decode cX6_lookAtParts 159 = .ok (.iload 8, 2) := by decide +kernel
theorem dX6_lookAtParts_161 : decode cX6_lookAtParts 161 = .ok (.iastore, 1) := by decide +kernel
theorem dX6_lookAtParts_162 : decode cX6_lookAtParts 162 = .ok (.iinc 7 1, 3) := by decide +kernel
theorem dX6_lookAtParts_165 : decode cX6_lookAtParts 165 = .ok (.goto (-89), 3) := by decide +kernel
theorem dX6_lookAtParts_168 : decode cX6_lookAtParts 168 = .ok (.iinc 6 1, 3) := by decide +kernel
theorem dX6_lookAtParts_171 : decode cX6_lookAtParts 171 = .ok (.goto (-105), 3) := by decide +kernel
theorem dX6_lookAtParts_174 : decode cX6_lookAtParts 174 = .ok (.iinc 5 1, 3) := by decide +kernel
theorem dX6_lookAtParts_177 : decode cX6_lookAtParts 177 = .ok (.goto (-154), 3) := by decide +kernel
theorem dX6_lookAtParts_180 : decode cX6_lookAtParts 180 = .ok (.iconst 1, 1) := by decide +kernel
theorem dX6_lookAtParts_181 : decode cX6_lookAtParts 181 = .ok (.ireturn, 1) := by decide +kernel
theorem dX6_addUnlike_0 : decode cX6_addUnlike 0 = .ok (.aload_n 0, 1) := by decide +kernel
theorem dX6_addUnlike_1 : decode cX6_addUnlike 1 = .ok (.getfield 12, 3) := by decide +kernel
theorem dX6_addUnlike_4 : decode cX6_addUnlike 4 = .ok (.invokevirtual 65, 3) := by decide +kernel
theorem dX6_addUnlike_7 : decode cX6_addUnlike 7 = .ok (.aload_n 0, 1) := by decide +kernel
theorem dX6_addUnlike_8 : decode cX6_addUnlike 8 = .ok (.getfield 35, 3) := by decide +kernel
theorem dX6_addUnlike_11 : decode cX6_addUnlike 11 = .ok (.iconst 0, 1) := by decide +kernel
theorem dX6_addUnlike_12 : decode cX6_addUnlike 12 = .ok (.invokestatic 146, 3) := by decide +kernel
theorem dX6_addUnlike_15 : decode cX6_addUnlike 15 = .ok (.iconst 0, 1) := by decide +kernel
theorem dX6_addUnlike_16 : decode cX6_addUnlike 16 = .ok (.istore_n 1, 1) := by decide +kernel
theorem dX6_addUnlike_17 : decode cX6_addUnlike 17 = .ok (.iload_n 1, 1) := by decide +kernel
theorem dX6_addUnlike_18 : decode cX6_addUnlike 18 = .ok (.aload_n 0, 1) := by decide +kernel
theorem dX6_addUnlike_19 : decode cX6_addUnlike 19 = .ok (.getfield 38, 3) := by decide +kernel
theorem dX6_addUnlike_22 : decode cX6_addUnlike 22 = .ok (.if_icmp .ge 29, 3) := by decide +kernel
theorem dX6_addUnlike_25 : decode cX6_addUnlike 25 = .ok (.aload_n 0, 1) := by decide +kernel
theorem dX6_addUnlike_26 : decode cX6_addUnlike 26 = .ok (.getfield 35, 3) := by decide +kernel
theorem dX6_addUnlike_29 : decode cX6_addUnlike 29 = .ok (.aload_n 0, 1) := by decide +kernel
theorem dX6_addUnlike_30 : decode cX6_addUnlike 30 = .ok (.getfield 12, 3) := by decide +kernel
theorem dX6_addUnlike_33 : decode cX6_addUnlike 33 = .ok (.getfield 152, 3) := by decide +kernel
theorem dX6_addUnlike_36 : decode cX6_addUnlike 36 = .ok (.aload_n 0, 1) := by decide +kernel
theorem dX6_addUnlike_37 : decode cX6_addUnlike 37 = .ok (.getfield 28, 3) := by decide +kernel
theorem dX6_addUnlike_40 : decode cX6_addUnlike 40 = .ok (.iload_n 1, 1) := by decide +kernel
theorem dX6_addUnlike_41 : decode cX6_addUnlike 41 = .ok (.iaload, 1) := by decide +kernel
theorem dX6_addUnlike_42 : decode cX6_addUnlike 42 = .ok (.iaload, 1) := by decide +kernel
theorem dX6_addUnlike_43 : decode cX6_addUnlike 43 = .ok (.iconst 1, 1) := by decide +kernel
theorem dX6_addUnlike_44 : decode cX6_addUnlike 44 = .ok (.iastore, 1) := by decide +kernel
theorem dX6_addUnlike_45 : decode cX6_addUnlike 45 = .ok (.iinc 1 1, 3) := by decide +kernel
theorem dX6_addUnlike_48 : decode cX6_addUnlike 48 = .ok (.goto (-31), 3) := by decide +kernel
theorem dX6_addUnlike_51 : decode cX6_addUnlike 51 = .ok (.iconst 0, 1) := by decide +kernel
theorem dX6_addUnlike_52 : decode cX6_addUnlike 52 = .ok (.istore_n 1, 1) := by decide +kernel
theorem dX6_addUnlike_53 : decode cX6_addUnlike 53 = .ok (.iload_n 1, 1) := by decide +kernel
theorem dX6_addUnlike_54 : decode cX6_addUnlike 54 = .ok (.aload_n 0, 1) := by decide +kernel
theorem dX6_addUnlike_55 : decode cX6_addUnlike 55 = .ok (.getfield 42, 3) := by decide +kernel
theorem dX6_addUnlike_58 : decode cX6_addUnlike 58 = .ok (.if_icmp .ge 73, 3) := by decide +kernel
theorem dX6_addUnlike_61 : decode cX6_addUnlike 61 = .ok (.aload_n 0, 1) := by decide +kernel
theorem dX6_addUnlike_62 : decode cX6_addUnlike 62 = .ok (.getfield 12, 3) := by decide +kernel
theorem dX6_addUnlike_65 : decode cX6_addUnlike 65 = .ok (.getfield 152, 3) := by decide +kernel
theorem dX6_addUnlike_68 : decode cX6_addUnlike 68 = .ok (.aload_n 0, 1) := by decide +kernel
theorem dX6_addUnlike_69 : decode cX6_addUnlike 69 = .ok (.getfield 32, 3) := by decide +kernel
theorem dX6_addUnlike_72 : decode cX6_addUnlike 72 = .ok (.iload_n 1, 1) := by decide +kernel
theorem dX6_addUnlike_73 : decode cX6_addUnlike 73 = .ok (.iaload, 1) := by decide +kernel
theorem dX6_addUnlike_74 : decode cX6_addUnlike 74 = .ok (.iaload, 1) := by decide +kernel
theorem dX6_addUnlike_75 : decode cX6_addUnlike 75 = .ok (.istore_n 2, 1) := by decide +kernel
theorem dX6_addUnlike_76 : decode cX6_addUnlike 76 = .ok (.aload_n 0, 1) := by decide +kernel
theorem dX6_addUnlike_77 : decode cX6_addUnlike 77 = .ok (.getfield 35, 3) := by decide +kernel
theorem dX6_addUnlike_80 : decode cX6_addUnlike 80 = .ok (.iload_n 2, 1) := by decide +kernel
theorem dX6_addUnlike_81 : decode cX6_addUnlike 81 = .ok (.iaload, 1) := by decide +kernel
theorem dX6_addUnlike_82 : decode cX6_addUnlike 82 = .ok (.ifCond .ne 43, 3) := by decide +kernel
theorem dX6_addUnlike_85 : decode cX6_addUnlike 85 = .ok (.aload_n 0, 1) := by decide +kernel
theorem dX6_addUnlike_86 : decode cX6_addUnlike 86 = .ok (.getfield 38, 3) := by decide +kernel
theorem dX6_addUnlike_89 : decode cX6_addUnlike 89 = .ok (.bipush 20, 2) := by decide +kernel
theorem dX6_addUnlike_91 : decode cX6_addUnlike 91 = .ok (.if_icmp .lt 5, 3) := by decide +kernel
theorem dX6_addUnlike_94 : decode cX6_addUnlike 94 = .ok (.iconst 0, 1) := by decide +kernel
theorem dX6_addUnlike_95 : decode cX6_addUnlike 95 = .ok (.ireturn, 1) := by decide +kernel
theorem dX6_addUnlike_96 : decode cX6_addUnlike 96 = .ok (.aload_n 0, 1) := by decide +kernel
theorem dX6_addUnlike_97 : decode cX6_addUnlike 97 = .ok (.getfield 35, 3) := by decide +kernel
theorem dX6_addUnlike_100 : decode cX6_addUnlike 100 = .ok (.iload_n 2, 1) := by decide +kernel
theorem dX6_addUnlike_101 : decode cX6_addUnlike 101 = .ok (.iconst 1, 1) := by decide +kernel
theorem dX6_addUnlike_102 : decode cX6_addUnlike 102 = .ok (.iastore, 1) := by decide +kernel
theorem dX6_addUnlike_103 : decode cX6_addUnlike 103 = .ok (.aload_n 0, 1) := by decide +kernel
theorem dX6_addUnlike_104 : decode cX6_addUnlike 104 = .ok (.getfield 28, 3) := by decide +kernel
theorem dX6_addUnlike_107 : decode cX6_addUnlike 107 = .ok (.aload_n 0, 1) := by decide +kernel
theorem dX6_addUnlike_108 : decode cX6_addUnlike 108 = .ok (.dup, 1) := by decide +kernel
theorem dX6_addUnlike_109 : decode cX6_addUnlike 109 = .ok (.getfield 38, 3) := by decide +kernel
theorem dX6_addUnlike_112 : decode cX6_addUnlike 112 = .ok (.dup_x1, 1) := by decide +kernel
theorem dX6_addUnlike_113 : decode cX6_addUnlike 113 = .ok (.iconst 1, 1) := by decide +kernel
theorem dX6_addUnlike_114 : decode cX6_addUnlike 114 = .ok (.iadd, 1) := by decide +kernel
theorem dX6_addUnlike_115 : decode cX6_addUnlike 115 = .ok (.putfield 38, 3) := by decide +kernel
theorem dX6_addUnlike_118 : decode cX6_addUnlike 118 = .ok (.aload_n 0, 1) := by decide +kernel
theorem dX6_addUnlike_119 : decode cX6_addUnlike 119 = .ok (.getfield 32, 3) := by decide +kernel
theorem dX6_addUnlike_122 : decode cX6_addUnlike 122 = .ok (.iload_n 1, 1) := by decide +kernel
theorem dX6_addUnlike_123 : decode cX6_addUnlike 123 = .ok (.iaload, 1) := by decide +kernel
theorem dX6_addUnlike_124 : decode cX6_addUnlike 124 = .ok (.iastore, 1) := by decide +kernel
theorem dX6_addUnlike_125 : decode cX6_addUnlike 125 = .ok (.iinc 1 1, 3) := by decide +kernel
theorem dX6_addUnlike_128 : decode cX6_addUnlike 128 = .ok (.goto (-75), 3) := by decide +kernel
theorem dX6_addUnlike_131 : decode cX6_addUnlike 131 = .ok (.iconst 1, 1) := by decide +kernel
theorem dX6_addUnlike_132 : decode cX6_addUnlike 132 = .ok (.ireturn, 1) := by decide +kernel
theorem dX7_empty_0 : decode cX7_empty 0 = .ok (.aload_n 0, 1) := by decide +kernel
theorem dX7_empty_1 : decode cX7_empty 1 = .ok (.lconst 0, 1) := by decide +kernel
theorem dX7_empty_2 : decode cX7_empty 2 = .ok (.putfield 9, 3) := by decide +kernel
theorem dX7_empty_5 : decode cX7_empty 5 = .ok (.aload_n 0, 1) := by decide +kernel
theorem dX7_empty_6 : decode cX7_empty 6 = .ok (.iconst 0, 1) := by decide +kernel
theorem dX7_empty_7 : decode cX7_empty 7 = .ok (.putfield 15, 3) := by decide +kernel
theorem dX7_empty_10 : decode cX7_empty 10 = .ok (.return_, 1) := by decide +kernel
theorem dX7_copy_0 : decode cX7_copy 0 = .ok (.aload_n 0, 1) := by decide +kernel
theorem dX7_copy_1 : decode cX7_copy 1 = .ok (.aload_n 1, 1) := by decide +kernel
theorem dX7_copy_2 : decode cX7_copy 2 = .ok (.getfield 9, 3) := by decide +kernel
theorem dX7_copy_5 : decode cX7_copy 5 = .ok (.putfield 9, 3) := by decide +kernel
theorem dX7_copy_8 : decode cX7_copy 8 = .ok (.aload_n 0, 1) := by decide +kernel
theorem dX7_copy_9 : decode cX7_copy 9 = .ok (.aload_n 1, 1) := by decide +kernel
theorem dX7_copy_10 : decode cX7_copy 10 = .ok (.getfield 15, 3) := by decide +kernel
theorem dX7_copy_13 : decode cX7_copy 13 = .ok (.putfield 15, 3) := by decide +kernel
theorem dX7_copy_16 : decode cX7_copy 16 = .ok (.return_, 1) := by decide +kernel
theorem dX7_mark_0 : decode cX7_mark 0 = .ok (.aload_n 0, 1) := by decide +kernel
theorem dX7_mark_1 : decode cX7_mark 1 = .ok (.getfield 9, 3) := by decide +kernel
theorem dX7_mark_4 : decode cX7_mark 4 = .ok (.iconst 4, 1) := by decide +kernel
theorem dX7_mark_5 : decode cX7_mark 5 = .ok (.iload_n 1, 1) := by decide +kernel
theorem dX7_mark_6 : decode cX7_mark 6 = .ok (.imul, 1) := by decide +kernel
theorem dX7_mark_7 : decode cX7_mark 7 = .ok (.lushr, 1) := by decide +kernel
theorem dX7_mark_8 : decode cX7_mark 8 = .ok (.l2i, 1) := by decide +kernel
theorem dX7_mark_9 : decode cX7_mark 9 = .ok (.bipush 15, 2) := by decide +kernel
theorem dX7_mark_11 : decode cX7_mark 11 = .ok (.iand, 1) := by decide +kernel
theorem dX7_mark_12 : decode cX7_mark 12 = .ok (.ireturn, 1) := by decide +kernel
theorem dX7_push_0 : decode cX7_push 0 = .ok (.aload_n 0, 1) := by decide +kernel
theorem dX7_push_1 : decode cX7_push 1 = .ok (.getfield 15, 3) := by decide +kernel
theorem dX7_push_4 : decode cX7_push 4 = .ok (.ifCond .le 57, 3) := by decide +kernel
theorem dX7_push_7 : decode cX7_push 7 = .ok (.aload_n 0, 1) := by decide +kernel
theorem dX7_push_8 : decode cX7_push 8 = .ok (.getfield 9, 3) := by decide +kernel
theorem dX7_push_11 : decode cX7_push 11 = .ok (.iconst 4, 1) := by decide +kernel
theorem dX7_push_12 : decode cX7_push 12 = .ok (.aload_n 0, 1) := by decide +kernel
theorem dX7_push_13 : decode cX7_push 13 = .ok (.getfield 15, 3) := by decide +kernel
theorem dX7_push_16 : decode cX7_push 16 = .ok (.imul, 1) := by decide +kernel
theorem dX7_push_17 : decode cX7_push 17 = .ok (.iconst 4, 1) := by decide +kernel
theorem dX7_push_18 : decode cX7_push 18 = .ok (.isub, 1) := by decide +kernel
theorem dX7_push_19 : decode cX7_push 19 = .ok (.lushr, 1) := by decide +kernel
theorem dX7_push_20 : decode cX7_push 20 = .ok (.l2i, 1) := by decide +kernel
theorem dX7_push_21 : decode cX7_push 21 = .ok (.bipush 15, 2) := by decide +kernel
theorem dX7_push_23 : decode cX7_push 23 = .ok (.iand, 1) := by decide +kernel
theorem dX7_push_24 : decode cX7_push 24 = .ok (.iload_n 1, 1) := by decide +kernel
theorem dX7_push_25 : decode cX7_push 25 = .ok (.iconst 1, 1) := by decide +kernel
theorem dX7_push_26 : decode cX7_push 26 = .ok (.ixor, 1) := by decide +kernel
theorem dX7_push_27 : decode cX7_push 27 = .ok (.if_icmp .ne 34, 3) := by decide +kernel
theorem dX7_push_30 : decode cX7_push 30 = .ok (.aload_n 0, 1) := by decide +kernel
theorem dX7_push_31 : decode cX7_push 31 = .ok (.dup, 1) := by decide +kernel
theorem dX7_push_32 : decode cX7_push 32 = .ok (.getfield 15, 3) := by decide +kernel
theorem dX7_push_35 : decode cX7_push 35 = .ok (.iconst 1, 1) := by decide +kernel
theorem dX7_push_36 : decode cX7_push 36 = .ok (.isub, 1) := by decide +kernel
theorem dX7_push_37 : decode cX7_push 37 = .ok (.putfield 15, 3) := by decide +kernel
theorem dX7_push_40 : decode cX7_push 40 = .ok (.aload_n 0, 1) := by decide +kernel
theorem dX7_push_41 : decode cX7_push 41 = .ok (.dup, 1) := by decide +kernel
theorem dX7_push_42 : decode cX7_push 42 = .ok (.getfield 9, 3) := by decide +kernel
theorem dX7_push_45 : decode cX7_push 45 = .ok (.lconst 1, 1) := by decide +kernel
theorem dX7_push_46 : decode cX7_push 46 = .ok (.iconst 4, 1) := by decide +kernel
theorem dX7_push_47 : decode cX7_push 47 = .ok (.aload_n 0, 1) := by decide +kernel
theorem dX7_push_48 : decode cX7_push 48 = .ok (.getfield 15, 3) := by decide +kernel
theorem dX7_push_51 : decode cX7_push 51 = .ok (.imul, 1) := by decide +kernel
theorem dX7_push_52 : decode cX7_push 52 = .ok (.lshl, 1) := by decide +kernel
theorem dX7_push_53 : decode cX7_push 53 = .ok (.lconst 1, 1) := by decide +kernel
theorem dX7_push_54 : decode cX7_push 54 = .ok (.lsub, 1) := by decide +kernel
theorem dX7_push_55 : decode cX7_push 55 = .ok (.land, 1) := by decide +kernel
theorem dX7_push_56 : decode cX7_push 56 = .ok (.putfield 9, 3) := by decide +kernel
theorem dX7_push_59 : decode cX7_push 59 = .ok (.iconst 1, 1) := by decide +kernel
theorem dX7_push_60 : decode cX7_push 60 = .ok (.ireturn, 1) := by decide +kernel
theorem dX7_push_61 : decode cX7_push 61 = .ok (.aload_n 0, 1) := by decide +kernel
theorem dX7_push_62 : decode cX7_push 62 = .ok (.getfield 15, 3) := by decide +kernel
theorem dX7_push_65 : decode cX7_push 65 = .ok (.bipush 16, 2) := by decide +kernel
theorem dX7_push_67 : decode cX7_push 67 = .ok (.if_icmp .lt 5, 3) := by decide +kernel
theorem dX7_push_70 : decode cX7_push 70 = .ok (.iconst 0, 1) := by decide +kernel
theorem dX7_push_71 : decode cX7_push 71 = .ok (.ireturn, 1) := by decide +kernel
theorem dX7_push_72 : decode cX7_push 72 = .ok (.aload_n 0, 1) := by decide +kernel
theorem dX7_push_73 : decode cX7_push 73 = .ok (.dup, 1) := by decide +kernel
theorem dX7_push_74 : decode cX7_push 74 = .ok (.getfield 9, 3) := by decide +kernel
theorem dX7_push_77 : decode cX7_push 77 = .ok (.iload_n 1, 1) := by decide +kernel
theorem dX7_push_78 : decode cX7_push 78 = .ok (.i2l, 1) := by decide +kernel
theorem dX7_push_79 : decode cX7_push 79 = .ok (.iconst 4, 1) := by decide +kernel
theorem dX7_push_80 : decode cX7_push 80 = .ok (.aload_n 0, 1) := by decide +kernel
theorem dX7_push_81 : decode cX7_push 81 = .ok (.getfield 15, 3) := by decide +kernel
theorem dX7_push_84 : decode cX7_push 84 = .ok (.imul, 1) := by decide +kernel
theorem dX7_push_85 : decode cX7_push 85 = .ok (.lshl, 1) := by decide +kernel
theorem dX7_push_86 : decode cX7_push 86 = .ok (.lor, 1) := by decide +kernel
theorem dX7_push_87 : decode cX7_push 87 = .ok (.putfield 9, 3) := by decide +kernel
theorem dX7_push_90 : decode cX7_push 90 = .ok (.aload_n 0, 1) := by decide +kernel
theorem dX7_push_91 : decode cX7_push 91 = .ok (.dup, 1) := by decide +kernel
theorem dX7_push_92 : decode cX7_push 92 = .ok (.getfield 15, 3) := by decide +kernel
theorem dX7_push_95 : decode cX7_push 95 = .ok (.iconst 1, 1) := by decide +kernel
theorem dX7_push_96 : decode cX7_push 96 = .ok (.iadd, 1) := by decide +kernel
theorem dX7_push_97 : decode cX7_push 97 = .ok (.putfield 15, 3) := by decide +kernel
theorem dX7_push_100 : decode cX7_push 100 = .ok (.iconst 1, 1) := by decide +kernel
theorem dX7_push_101 : decode cX7_push 101 = .ok (.ireturn, 1) := by decide +kernel
theorem dX7_descend_0 : decode cX7_descend 0 = .ok (.aload_n 0, 1) := by decide +kernel
theorem dX7_descend_1 : decode cX7_descend 1 = .ok (.getfield 9, 3) := by decide +kernel
theorem dX7_descend_4 : decode cX7_descend 4 = .ok (.lstore_n 3, 1) := by decide +kernel
theorem dX7_descend_5 : decode cX7_descend 5 = .ok (.aload_n 0, 1) := by decide +kernel
theorem dX7_descend_6 : decode cX7_descend 6 = .ok (.getfield 15, 3) := by decide +kernel
theorem dX7_descend_9 : decode cX7_descend 9 = .ok (.istore 5, 2) := by decide +kernel
theorem dX7_descend_11 : decode cX7_descend 11 = .ok (.iload_n 2, 1) := by decide +kernel
theorem dX7_descend_12 : decode cX7_descend 12 = .ok (.istore 6, 2) := by decide +kernel
theorem dX7_descend_14 : decode cX7_descend 14 = .ok (.aload_n 0, 1) := by decide +kernel
theorem dX7_descend_15 : decode cX7_descend 15 = .ok (.invokevirtual 19, 3) := by decide +kernel
theorem dX7_descend_18 : decode cX7_descend 18 = .ok (.iconst 0, 1) := by decide +kernel
theorem dX7_descend_19 : decode cX7_descend 19 = .ok (.istore 7, 2) := by decide +kernel
theorem dX7_descend_21 : decode cX7_descend 21 = .ok (.iload 7, 2) := by decide +kernel
theorem dX7_descend_23 : decode cX7_descend 23 = .ok (.iload 5, 2) := by decide +kernel
theorem dX7_descend_25 : decode cX7_descend 25 = .ok (.if_icmp .ge 58, 3) := by decide +kernel
theorem dX7_descend_28 : decode cX7_descend 28 = .ok (.lload_n 3, 1) := by decide +kernel
theorem dX7_descend_29 : decode cX7_descend 29 = .ok (.iconst 4, 1) := by decide +kernel
theorem dX7_descend_30 : decode cX7_descend 30 = .ok (.iload 7, 2) := by decide +kernel
theorem dX7_descend_32 : decode cX7_descend 32 = .ok (.imul, 1) := by decide +kernel
theorem dX7_descend_33 : decode cX7_descend 33 = .ok (.lushr, 1) := by decide +kernel
theorem dX7_descend_34 : decode cX7_descend 34 = .ok (.l2i, 1) := by decide +kernel
theorem dX7_descend_35 : decode cX7_descend 35 = .ok (.bipush 15, 2) := by decide +kernel
theorem dX7_descend_37 : decode cX7_descend 37 = .ok (.iand, 1) := by decide +kernel
theorem dX7_descend_38 : decode cX7_descend 38 = .ok (.iconst 4, 1) := by decide +kernel
theorem dX7_descend_39 : decode cX7_descend 39 = .ok (.imul, 1) := by decide +kernel
theorem dX7_descend_40 : decode cX7_descend 40 = .ok (.iload 6, 2) := by decide +kernel
theorem dX7_descend_42 : decode cX7_descend 42 = .ok (.iadd, 1) := by decide +kernel
theorem dX7_descend_43 : decode cX7_descend 43 = .ok (.istore 8, 2) := by decide +kernel
theorem dX7_descend_45 : decode cX7_descend 45 = .ok (.aload_n 1, 1) := by decide +kernel
theorem dX7_descend_46 : decode cX7_descend 46 = .ok (.getfield 22, 3) := by decide +kernel
theorem dX7_descend_49 : decode cX7_descend 49 = .ok (.iload 8, 2) := by decide +kernel
theorem dX7_descend_51 : decode cX7_descend 51 = .ok (.iaload, 1) := by decide +kernel
theorem dX7_descend_52 : decode cX7_descend 52 = .ok (.istore 6, 2) := by decide +kernel
theorem dX7_descend_54 : decode cX7_descend 54 = .ok (.aload_n 1, 1) := by decide +kernel
theorem dX7_descend_55 : decode cX7_descend 55 = .ok (.getfield 28, 3) := by decide +kernel
theorem dX7_descend_58 : decode cX7_descend 58 = .ok (.iload 8, 2) := by decide +kernel
theorem dX7_descend_60 : decode cX7_descend 60 = .ok (.iaload, 1) := by decide +kernel
theorem dX7_descend_61 : decode cX7_descend 61 = .ok (.iconst (-1), 1) := by decide +kernel
theorem dX7_descend_62 : decode cX7_descend 62 = .ok (.if_icmp .eq 15, 3) := by decide +kernel
theorem dX7_descend_65 : decode cX7_descend 65 = .ok (.aload_n 0, 1) := by decide +kernel
theorem dX7_descend_66 : decode cX7_descend 66 = .ok (.aload_n 1, 1) := by decide +kernel
theorem dX7_descend_67 : decode cX7_descend 67 = .ok (.getfield 28, 3) := by decide +kernel
theorem dX7_descend_70 : decode cX7_descend 70 = .ok (.iload 8, 2) := by decide +kernel
theorem dX7_descend_72 : decode cX7_descend 72 = .ok (.iaload, 1) := by decide +kernel
theorem dX7_descend_73 : decode cX7_descend 73 = .ok (.invokevirtual 31, 3) := by decide +kernel
theorem dX7_descend_76 : decode cX7_descend 76 = .ok (.pop, 1) := by decide +kernel
theorem dX7_descend_77 : decode cX7_descend 77 = .ok (.iinc 7 1, 3) := by decide +kernel
theorem dX7_descend_80 : decode cX7_descend 80 = .ok (.goto (-59), 3) := by decide +kernel
theorem dX7_descend_83 : decode cX7_descend 83 = .ok (.iload 6, 2) := by decide +kernel
theorem dX7_descend_85 : decode cX7_descend 85 = .ok (.ireturn, 1) := by decide +kernel
