theorem dX9_in_0 : decode cX9_in 0 = .ok (.lload_n 0, 1) := by decide +kernel
theorem dX9_in_1 : decode cX9_in 1 = .ok (.lload_n 2, 1) := by decide +kernel
theorem dX9_in_2 : decode cX9_in 2 = .ok (.lcmp, 1) := by decide +kernel
theorem dX9_in_3 : decode cX9_in 3 = .ok (.ifCond .lt 14, 3) := by decide +kernel
theorem dX9_in_6 : decode cX9_in 6 = .ok (.lload_n 0, 1) := by decide +kernel
theorem dX9_in_7 : decode cX9_in 7 = .ok (.lload 4, 2) := by decide +kernel
theorem dX9_in_9 : decode cX9_in 9 = .ok (.lcmp, 1) := by decide +kernel
theorem dX9_in_10 : decode cX9_in 10 = .ok (.ifCond .gt 7, 3) := by decide +kernel
theorem dX9_in_13 : decode cX9_in 13 = .ok (.iconst 1, 1) := by decide +kernel
theorem dX9_in_14 : decode cX9_in 14 = .ok (.goto 4, 3) := by decide +kernel
theorem dX9_in_17 : decode cX9_in 17 = .ok (.iconst 0, 1) := by decide +kernel
theorem dX9_in_18 : decode cX9_in 18 = .ok (.ireturn, 1) := by decide +kernel
theorem dX9_isSheet_0 : decode cX9_isSheet 0 = .ok (.iload_n 0, 1) := by decide +kernel
theorem dX9_isSheet_1 : decode cX9_isSheet 1 = .ok (.i2l, 1) := by decide +kernel
theorem dX9_isSheet_2 : decode cX9_isSheet 2 = .ok (.lconst 0, 1) := by decide +kernel
theorem dX9_isSheet_3 : decode cX9_isSheet 3 = .ok (.ldc2_w 97, 3) := by decide +kernel
theorem dX9_isSheet_6 : decode cX9_isSheet 6 = .ok (.invokestatic 99, 3) := by decide +kernel
theorem dX9_isSheet_9 : decode cX9_isSheet 9 = .ok (.ireturn, 1) := by decide +kernel
theorem dX9_isSpot_0 : decode cX9_isSpot 0 = .ok (.iload_n 0, 1) := by decide +kernel
theorem dX9_isSpot_1 : decode cX9_isSpot 1 = .ok (.i2l, 1) := by decide +kernel
theorem dX9_isSpot_2 : decode cX9_isSpot 2 = .ok (.lconst 0, 1) := by decide +kernel
theorem dX9_isSpot_3 : decode cX9_isSpot 3 = .ok (.ldc2_w 103, 3) := by decide +kernel
theorem dX9_isSpot_6 : decode cX9_isSpot 6 = .ok (.invokestatic 99, 3) := by decide +kernel
theorem dX9_isSpot_9 : decode cX9_isSpot 9 = .ok (.ireturn, 1) := by decide +kernel
theorem dX9_sheet_0 : decode cX9_sheet 0 = .ok (.iload_n 1, 1) := by decide +kernel
theorem dX9_sheet_1 : decode cX9_sheet 1 = .ok (.invokestatic 105, 3) := by decide +kernel
theorem dX9_sheet_4 : decode cX9_sheet 4 = .ok (.ifCond .eq 15, 3) := by decide +kernel
theorem dX9_sheet_7 : decode cX9_sheet 7 = .ok (.iload_n 2, 1) := by decide +kernel
theorem dX9_sheet_8 : decode cX9_sheet 8 = .ok (.i2l, 1) := by decide +kernel
theorem dX9_sheet_9 : decode cX9_sheet 9 = .ok (.lconst 0, 1) := by decide +kernel
theorem dX9_sheet_10 : decode cX9_sheet 10 = .ok (.ldc2_w 109, 3) := by decide +kernel
theorem dX9_sheet_13 : decode cX9_sheet 13 = .ok (.invokestatic 99, 3) := by decide +kernel
theorem dX9_sheet_16 : decode cX9_sheet 16 = .ok (.ifCond .ne 5, 3) := by decide +kernel
theorem dX9_sheet_19 : decode cX9_sheet 19 = .ok (.iconst (-1), 1) := by decide +kernel
theorem dX9_sheet_20 : decode cX9_sheet 20 = .ok (.ireturn, 1) := by decide +kernel
theorem dX9_sheet_21 : decode cX9_sheet 21 = .ok (.iload_n 3, 1) := by decide +kernel
theorem dX9_sheet_22 : decode cX9_sheet 22 = .ok (.ifCond .ge 6, 3) := by decide +kernel
theorem dX9_sheet_25 : decode cX9_sheet 25 = .ok (.bipush (-4), 2) := by decide +kernel
theorem dX9_sheet_27 : decode cX9_sheet 27 = .ok (.ireturn, 1) := by decide +kernel
theorem dX9_sheet_28 : decode cX9_sheet 28 = .ok (.iload_n 3, 1) := by decide +kernel
theorem dX9_sheet_29 : decode cX9_sheet 29 = .ok (.bipush 40, 2) := by decide +kernel
theorem dX9_sheet_31 : decode cX9_sheet 31 = .ok (.if_icmp .le 5, 3) := by decide +kernel
theorem dX9_sheet_34 : decode cX9_sheet 34 = .ok (.iconst (-1), 1) := by decide +kernel
theorem dX9_sheet_35 : decode cX9_sheet 35 = .ok (.ireturn, 1) := by decide +kernel
theorem dX9_sheet_36 : decode cX9_sheet 36 = .ok (.aload_n 0, 1) := by decide +kernel
theorem dX9_sheet_37 : decode cX9_sheet 37 = .ok (.getfield 7, 3) := by decide +kernel
theorem dX9_sheet_40 : decode cX9_sheet 40 = .ok (.iload_n 1, 1) := by decide +kernel
theorem dX9_sheet_41 : decode cX9_sheet 41 = .ok (.iload_n 2, 1) := by decide +kernel
theorem dX9_sheet_42 : decode cX9_sheet 42 = .ok (.iastore, 1) := by decide +kernel
theorem dX9_sheet_43 : decode cX9_sheet 43 = .ok (.aload_n 0, 1) := by decide +kernel
theorem dX9_sheet_44 : decode cX9_sheet 44 = .ok (.getfield 13, 3) := by decide +kernel
theorem dX9_sheet_47 : decode cX9_sheet 47 = .ok (.iload_n 1, 1) := by decide +kernel
theorem dX9_sheet_48 : decode cX9_sheet 48 = .ok (.iload_n 3, 1) := by decide +kernel
theorem dX9_sheet_49 : decode cX9_sheet 49 = .ok (.iastore, 1) := by decide +kernel
theorem dX9_sheet_50 : decode cX9_sheet 50 = .ok (.iconst 0, 1) := by decide +kernel
theorem dX9_sheet_51 : decode cX9_sheet 51 = .ok (.istore 4, 2) := by decide +kernel
theorem dX9_sheet_53 : decode cX9_sheet 53 = .ok (.iload 4, 2) := by decide +kernel
theorem dX9_sheet_55 : decode cX9_sheet 55 = .ok (.iload_n 3, 1) := by decide +kernel
theorem dX9_sheet_56 : decode cX9_sheet 56 = .ok (.if_icmp .ge 22, 3) := by decide +kernel
theorem dX9_sheet_59 : decode cX9_sheet 59 = .ok (.aload_n 0, 1) := by decide +kernel
theorem dX9_sheet_60 : decode cX9_sheet 60 = .ok (.getfield 16, 3) := by decide +kernel
theorem dX9_sheet_63 : decode cX9_sheet 63 = .ok (.bipush 40, 2) := by decide +kernel
theorem dX9_sheet_65 : decode cX9_sheet 65 = .ok (.iload_n 1, 1) := by decide +kernel
theorem dX9_sheet_66 : decode cX9_sheet 66 = .ok (.imul, 1) := by decide +kernel
theorem dX9_sheet_67 : decode cX9_sheet 67 = .ok (.iload 4, 2) := by decide +kernel
theorem dX9_sheet_69 : decode cX9_sheet 69 = .ok (.iadd, 1) := by decide +kernel
theorem dX9_sheet_70 : decode cX9_sheet 70 = .ok (.iconst 0, 1) := by decide +kernel
theorem dX9_sheet_71 : decode cX9_sheet 71 = .ok (.iastore, 1) := by decide +kernel
theorem dX9_sheet_72 : decode cX9_sheet 72 = .ok (.iinc 4 1, 3) := by decide +kernel
theorem dX9_sheet_75 : decode cX9_sheet 75 = .ok (.goto (-22), 3) := by decide +kernel
theorem dX9_sheet_78 : decode cX9_sheet 78 = .ok (.iconst 1, 1) := by decide +kernel
theorem dX9_sheet_79 : decode cX9_sheet 79 = .ok (.ireturn, 1) := by decide +kernel
theorem dX9_cell_0 : decode cX9_cell 0 = .ok (.iload_n 1, 1) := by decide +kernel
theorem dX9_cell_1 : decode cX9_cell 1 = .ok (.invokestatic 105, 3) := by decide +kernel
theorem dX9_cell_4 : decode cX9_cell 4 = .ok (.ifCond .ne 5, 3) := by decide +kernel
theorem dX9_cell_7 : decode cX9_cell 7 = .ok (.iconst (-1), 1) := by decide +kernel
theorem dX9_cell_8 : decode cX9_cell 8 = .ok (.ireturn, 1) := by decide +kernel
theorem dX9_cell_9 : decode cX9_cell 9 = .ok (.aload_n 0, 1) := by decide +kernel
theorem dX9_cell_10 : decode cX9_cell 10 = .ok (.getfield 13, 3) := by decide +kernel
theorem dX9_cell_13 : decode cX9_cell 13 = .ok (.iload_n 1, 1) := by decide +kernel
theorem dX9_cell_14 : decode cX9_cell 14 = .ok (.iaload, 1) := by decide +kernel
theorem dX9_cell_15 : decode cX9_cell 15 = .ok (.ifCond .ge 6, 3) := by decide +kernel
theorem dX9_cell_18 : decode cX9_cell 18 = .ok (.bipush (-3), 2) := by decide +kernel
theorem dX9_cell_20 : decode cX9_cell 20 = .ok (.ireturn, 1) := by decide +kernel
theorem dX9_cell_21 : decode cX9_cell 21 = .ok (.iload_n 2, 1) := by decide +kernel
theorem dX9_cell_22 : decode cX9_cell 22 = .ok (.i2l, 1) := by decide +kernel
theorem dX9_cell_23 : decode cX9_cell 23 = .ok (.lconst 0, 1) := by decide +kernel
theorem dX9_cell_24 : decode cX9_cell 24 = .ok (.aload_n 0, 1) := by decide +kernel
theorem dX9_cell_25 : decode cX9_cell 25 = .ok (.getfield 13, 3) := by decide +kernel
theorem dX9_cell_28 : decode cX9_cell 28 = .ok (.iload_n 1, 1) := by decide +kernel
theorem dX9_cell_29 : decode cX9_cell 29 = .ok (.iaload, 1) := by decide +kernel
theorem dX9_cell_30 : decode cX9_cell 30 = .ok (.iconst 1, 1) := by decide +kernel
theorem dX9_cell_31 : decode cX9_cell 31 = .ok (.isub, 1) := by decide +kernel
theorem dX9_cell_32 : decode cX9_cell 32 = .ok (.i2l, 1) := by decide +kernel
theorem dX9_cell_33 : decode cX9_cell 33 = .ok (.invokestatic 99, 3) := by decide +kernel
theorem dX9_cell_36 : decode cX9_cell 36 = .ok (.ifCond .ne 5, 3) := by decide +kernel
theorem dX9_cell_39 : decode cX9_cell 39 = .ok (.iconst (-1), 1) := by decide +kernel
theorem dX9_cell_40 : decode cX9_cell 40 = .ok (.ireturn, 1) := by decide +kernel
theorem dX9_cell_41 : decode cX9_cell 41 = .ok (.aload_n 0, 1) := by decide +kernel
theorem dX9_cell_42 : decode cX9_cell 42 = .ok (.getfield 16, 3) := by decide +kernel
theorem dX9_cell_45 : decode cX9_cell 45 = .ok (.bipush 40, 2) := by decide +kernel
theorem dX9_cell_47 : decode cX9_cell 47 = .ok (.iload_n 1, 1) := by decide +kernel
theorem dX9_cell_48 : decode cX9_cell 48 = .ok (.imul, 1) := by decide +kernel
theorem dX9_cell_49 : decode cX9_cell 49 = .ok (.iload_n 2, 1) := by decide +kernel
theorem dX9_cell_50 : decode cX9_cell 50 = .ok (.iadd, 1) := by decide +kernel
theorem dX9_cell_51 : decode cX9_cell 51 = .ok (.aload_n 0, 1) := by decide +kernel
theorem dX9_cell_52 : decode cX9_cell 52 = .ok (.getfield 7, 3) := by decide +kernel
theorem dX9_cell_55 : decode cX9_cell 55 = .ok (.iload_n 1, 1) := by decide +kernel
theorem dX9_cell_56 : decode cX9_cell 56 = .ok (.iaload, 1) := by decide +kernel
theorem dX9_cell_57 : decode cX9_cell 57 = .ok (.ifCond .ne 8, 3) := by decide +kernel
theorem dX9_cell_60 : decode cX9_cell 60 = .ok (.iload_n 3, 1) := by decide +kernel
theorem dX9_cell_61 : decode cX9_cell 61 = .ok (.i2b, 1) := by decide +kernel
theorem dX9_cell_62 : decode cX9_cell 62 = .ok (.goto 19, 3) := by decide +kernel
theorem dX9_cell_65 : decode cX9_cell 65 = .ok (.aload_n 0, 1) := by decide +kernel
theorem dX9_cell_66 : decode cX9_cell 66 = .ok (.getfield 7, 3) := by decide +kernel
theorem dX9_cell_69 : decode cX9_cell 69 = .ok (.iload_n 1, 1) := by decide +kernel
theorem dX9_cell_70 : decode cX9_cell 70 = .ok (.iaload, 1) := by decide +kernel
theorem dX9_cell_71 : decode cX9_cell 71 = .ok (.iconst 1, 1) := by decide +kernel
theorem dX9_cell_72 : decode cX9_cell 72 = .ok (.if_icmp .ne 8, 3) := by decide +kernel
theorem dX9_cell_75 : decode cX9_cell 75 = .ok (.iload_n 3, 1) := by decide +kernel
theorem dX9_cell_76 : decode cX9_cell 76 = .ok (.i2s, 1) := by decide +kernel
theorem dX9_cell_77 : decode cX9_cell 77 = .ok (.goto 4, 3) := by decide +kernel
theorem dX9_cell_80 : decode cX9_cell 80 = .ok (.iload_n 3, 1) := by decide +kernel
theorem dX9_cell_81 : decode cX9_cell 81 = .ok (.iastore, 1) := by decide +kernel
theorem dX9_cell_82 : decode cX9_cell 82 = .ok (.iconst 1, 1) := by decide +kernel
theorem dX9_cell_83 : decode cX9_cell 83 = .ok (.ireturn, 1) := by decide +kernel
theorem dX9_told_0 : decode cX9_told 0 = .ok (.iload_n 1, 1) := by decide +kernel
theorem dX9_told_1 : decode cX9_told 1 = .ok (.invokestatic 105, 3) := by decide +kernel
theorem dX9_told_4 : decode cX9_told 4 = .ok (.ifCond .eq 35, 3) := by decide +kernel
theorem dX9_told_7 : decode cX9_told 7 = .ok (.iload_n 2, 1) := by decide +kernel
theorem dX9_told_8 : decode cX9_told 8 = .ok (.i2l, 1) := by decide +kernel
theorem dX9_told_9 : decode cX9_told 9 = .ok (.lconst 0, 1) := by decide +kernel
theorem dX9_told_10 : decode cX9_told 10 = .ok (.aload_n 0, 1) := by decide +kernel
theorem dX9_told_11 : decode cX9_told 11 = .ok (.getfield 13, 3) := by decide +kernel
theorem dX9_told_14 : decode cX9_told 14 = .ok (.iload_n 1, 1) := by decide +kernel
theorem dX9_told_15 : decode cX9_told 15 = .ok (.iaload, 1) := by decide +kernel
theorem dX9_told_16 : decode cX9_told 16 = .ok (.iconst 1, 1) := by decide +kernel
theorem dX9_told_17 : decode cX9_told 17 = .ok (.isub, 1) := by decide +kernel
theorem dX9_told_18 : decode cX9_told 18 = .ok (.i2l, 1) := by decide +kernel
theorem dX9_told_19 : decode cX9_told 19 = .ok (.invokestatic 99, 3) := by decide +kernel
theorem dX9_told_22 : decode cX9_told 22 = .ok (.ifCond .eq 17, 3) := by decide +kernel
theorem dX9_told_25 : decode cX9_told 25 = .ok (.aload_n 0, 1) := by decide +kernel
theorem dX9_told_26 : decode cX9_told 26 = .ok (.getfield 16, 3) := by decide +kernel
theorem dX9_told_29 : decode cX9_told 29 = .ok (.bipush 40, 2) := by decide +kernel
theorem dX9_told_31 : decode cX9_told 31 = .ok (.iload_n 1, 1) := by decide +kernel
theorem dX9_told_32 : decode cX9_told 32 = .ok (.imul, 1) := by decide +kernel
theorem dX9_told_33 : decode cX9_told 33 = .ok (.iload_n 2, 1) := by decide +kernel
theorem dX9_told_34 : decode cX9_told 34 = .ok (.iadd, 1) := by decide +kernel
theorem dX9_told_35 : decode cX9_told 35 = .ok (.iaload, 1) := by decide +kernel
theorem dX9_told_36 : decode cX9_told 36 = .ok (.goto 5, 3) := by decide +kernel
theorem dX9_told_39 : decode cX9_told 39 = .ok (.ldc 113, 2) := by decide +kernel
theorem dX9_told_41 : decode cX9_told 41 = .ok (.ireturn, 1) := by decide +kernel
theorem dX9_lose_0 : decode cX9_lose 0 = .ok (.iload_n 1, 1) := by decide +kernel
theorem dX9_lose_1 : decode cX9_lose 1 = .ok (.invokestatic 105, 3) := by decide +kernel
theorem dX9_lose_4 : decode cX9_lose 4 = .ok (.ifCond .ne 5, 3) := by decide +kernel
theorem dX9_lose_7 : decode cX9_lose 7 = .ok (.iconst (-1), 1) := by decide +kernel
theorem dX9_lose_8 : decode cX9_lose 8 = .ok (.ireturn, 1) := by decide +kernel
theorem dX9_lose_9 : decode cX9_lose 9 = .ok (.aload_n 0, 1) := by decide +kernel
theorem dX9_lose_10 : decode cX9_lose 10 = .ok (.getfield 13, 3) := by decide +kernel
theorem dX9_lose_13 : decode cX9_lose 13 = .ok (.iload_n 1, 1) := by decide +kernel
theorem dX9_lose_14 : decode cX9_lose 14 = .ok (.iaload, 1) := by decide +kernel
theorem dX9_lose_15 : decode cX9_lose 15 = .ok (.ifCond .ge 6, 3) := by decide +kernel
theorem dX9_lose_18 : decode cX9_lose 18 = .ok (.bipush (-3), 2) := by decide +kernel
theorem dX9_lose_20 : decode cX9_lose 20 = .ok (.ireturn, 1) := by decide +kernel
theorem dX9_lose_21 : decode cX9_lose 21 = .ok (.aload_n 0, 1) := by decide +kernel
theorem dX9_lose_22 : decode cX9_lose 22 = .ok (.getfield 13, 3) := by decide +kernel
theorem dX9_lose_25 : decode cX9_lose 25 = .ok (.iload_n 1, 1) := by decide +kernel
theorem dX9_lose_26 : decode cX9_lose 26 = .ok (.iconst (-1), 1) := by decide +kernel
theorem dX9_lose_27 : decode cX9_lose 27 = .ok (.iastore, 1) := by decide +kernel
theorem dX9_lose_28 : decode cX9_lose 28 = .ok (.iconst 1, 1) := by decide +kernel
theorem dX9_lose_29 : decode cX9_lose 29 = .ok (.ireturn, 1) := by decide +kernel
theorem dX9_letters_0 : decode cX9_letters 0 = .ok (.iload_n 1, 1) := by decide +kernel
theorem dX9_letters_1 : decode cX9_letters 1 = .ok (.i2l, 1) := by decide +kernel
theorem dX9_letters_2 : decode cX9_letters 2 = .ok (.ldc2_w 109, 3) := by decide +kernel
theorem dX9_letters_5 : decode cX9_letters 5 = .ok (.ldc2_w 114, 3) := by decide +kernel
theorem dX9_letters_8 : decode cX9_letters 8 = .ok (.invokestatic 99, 3) := by decide +kernel
theorem dX9_letters_11 : decode cX9_letters 11 = .ok (.ifCond .ne 5, 3) := by decide +kernel
theorem dX9_letters_14 : decode cX9_letters 14 = .ok (.iconst (-1), 1) := by decide +kernel
theorem dX9_letters_15 : decode cX9_letters 15 = .ok (.ireturn, 1) := by decide +kernel
theorem dX9_letters_16 : decode cX9_letters 16 = .ok (.aload_n 0, 1) := by decide +kernel
theorem dX9_letters_17 : decode cX9_letters 17 = .ok (.iload_n 1, 1) := by decide +kernel
theorem dX9_letters_18 : decode cX9_letters 18 = .ok (.putfield 19, 3) := by decide +kernel
theorem dX9_letters_21 : decode cX9_letters 21 = .ok (.aload_n 0, 1) := by decide +kernel
theorem dX9_letters_22 : decode cX9_letters 22 = .ok (.iconst 0, 1) := by decide +kernel
theorem dX9_letters_23 : decode cX9_letters 23 = .ok (.putfield 116, 3) := by decide +kernel
theorem dX9_letters_26 : decode cX9_letters 26 = .ok (.iconst 0, 1) := by decide +kernel
theorem dX9_letters_27 : decode cX9_letters 27 = .ok (.istore_n 2, 1) := by decide +kernel
theorem dX9_letters_28 : decode cX9_letters 28 = .ok (.iload_n 2, 1) := by decide +kernel
theorem dX9_letters_29 : decode cX9_letters 29 = .ok (.bipush 8, 2) := by decide +kernel
theorem dX9_letters_31 : decode cX9_letters 31 = .ok (.if_icmp .ge 16, 3) := by decide +kernel
theorem dX9_letters_34 : decode cX9_letters 34 = .ok (.aload_n 0, 1) := by decide +kernel
theorem dX9_letters_35 : decode cX9_letters 35 = .ok (.getfield 32, 3) := by decide +kernel
theorem dX9_letters_38 : decode cX9_letters 38 = .ok (.iload_n 2, 1) := by decide +kernel
theorem dX9_letters_39 : decode cX9_letters 39 = .ok (.iconst 0, 1) := by decide +kernel
theorem dX9_letters_40 : decode cX9_letters 40 = .ok (.iastore, 1) := by decide +kernel
theorem dX9_letters_41 : decode cX9_letters 41 = .ok (.iinc 2 1, 3) := by decide +kernel
theorem dX9_letters_44 : decode cX9_letters 44 = .ok (.goto (-16), 3) := by decide +kernel
theorem dX9_letters_47 : decode cX9_letters 47 = .ok (.iconst 1, 1) := by decide +kernel
theorem dX9_letters_48 : decode cX9_letters 48 = .ok (.ireturn, 1) := by decide +kernel
theorem dX9_state_0 : decode cX9_state 0 = .ok (.iload_n 1, 1) := by decide +kernel
theorem dX9_state_1 : decode cX9_state 1 = .ok (.invokestatic 105, 3) := by decide +kernel
theorem dX9_state_4 : decode cX9_state 4 = .ok (.ifCond .eq 7, 3) := by decide +kernel
theorem dX9_state_7 : decode cX9_state 7 = .ok (.iload_n 2, 1) := by decide +kernel
theorem dX9_state_8 : decode cX9_state 8 = .ok (.ifCond .ge 5, 3) := by decide +kernel
theorem dX9_state_11 : decode cX9_state 11 = .ok (.iconst (-1), 1) := by decide +kernel
theorem dX9_state_12 : decode cX9_state 12 = .ok (.ireturn, 1) := by decide +kernel
theorem dX9_state_13 : decode cX9_state 13 = .ok (.aload_n 0, 1) := by decide +kernel
theorem dX9_state_14 : decode cX9_state 14 = .ok (.getfield 13, 3) := by decide +kernel
theorem dX9_state_17 : decode cX9_state 17 = .ok (.iload_n 1, 1) := by decide +kernel
theorem dX9_state_18 : decode cX9_state 18 = .ok (.iaload, 1) := by decide +kernel
theorem dX9_state_19 : decode cX9_state 19 = .ok (.ifCond .ge 6, 3) := by decide +kernel
theorem dX9_state_22 : decode cX9_state 22 = .ok (.bipush (-3), 2) := by decide +kernel
theorem dX9_state_24 : decode cX9_state 24 = .ok (.ireturn, 1) := by decide +kernel
theorem dX9_state_25 : decode cX9_state 25 = .ok (.iconst 1, 1) := by decide +kernel
theorem dX9_state_26 : decode cX9_state 26 = .ok (.istore_n 3, 1) := by decide +kernel
theorem dX9_state_27 : decode cX9_state 27 = .ok (.iconst 0, 1) := by decide +kernel
theorem dX9_state_28 : decode cX9_state 28 = .ok (.istore 4, 2) := by decide +kernel
theorem dX9_state_30 : decode cX9_state 30 = .ok (.iload 4, 2) := by decide +kernel
theorem dX9_state_32 : decode cX9_state 32 = .ok (.aload_n 0, 1) := by decide +kernel
theorem dX9_state_33 : decode cX9_state 33 = .ok (.getfield 19, 3) := by decide +kernel
theorem dX9_state_36 : decode cX9_state 36 = .ok (.if_icmp .ge 136, 3) := by decide +kernel
theorem dX9_state_39 : decode cX9_state 39 = .ok (.iload_n 2, 1) := by decide +kernel
theorem dX9_state_40 : decode cX9_state 40 = .ok (.i2l, 1) := by decide +kernel
theorem dX9_state_41 : decode cX9_state 41 = .ok (.iconst 2, 1) := by decide +kernel
theorem dX9_state_42 : decode cX9_state 42 = .ok (.iload 4, 2) := by decide +kernel
theorem dX9_state_44 : decode cX9_state 44 = .ok (.imul, 1) := by decide +kernel
theorem dX9_state_45 : decode cX9_state 45 = .ok (.i2l, 1) := by decide +kernel
theorem dX9_state_46 : decode cX9_state 46 = .ok (.ladd, 1) := by decide +kernel
theorem dX9_state_47 : decode cX9_state 47 = .ok (.lconst 1, 1) := by decide +kernel
theorem dX9_state_48 : decode cX9_state 48 = .ok (.ladd, 1) := by decide +kernel
theorem dX9_state_49 : decode cX9_state 49 = .ok (.aload_n 0, 1) := by decide +kernel
theorem dX9_state_50 : decode cX9_state 50 = .ok (.getfield 13, 3) := by decide +kernel
theorem dX9_state_53 : decode cX9_state 53 = .ok (.iload_n 1, 1) := by decide +kernel
theorem dX9_state_54 : decode cX9_state 54 = .ok (.iaload, 1) := by decide +kernel
theorem dX9_state_55 : decode cX9_state 55 = .ok (.i2l, 1) := by decide +kernel
theorem dX9_state_56 : decode cX9_state 56 = .ok (.lcmp, 1) := by decide +kernel
theorem dX9_state_57 : decode cX9_state 57 = .ok (.ifCond .ge 7, 3) := by decide +kernel
theorem dX9_state_60 : decode cX9_state 60 = .ok (.iconst 1, 1) := by decide +kernel
theorem dX9_state_61 : decode cX9_state 61 = .ok (.goto 4, 3) := by decide +kernel
theorem dX9_state_64 : decode cX9_state 64 = .ok (.iconst 0, 1) := by decide +kernel
theorem dX9_state_65 : decode cX9_state 65 = .ok (.istore 5, 2) := by decide +kernel
theorem dX9_state_67 : decode cX9_state 67 = .ok (.iload 5, 2) := by decide +kernel
theorem dX9_state_69 : decode cX9_state 69 = .ok (.ifCond .eq 22, 3) := by decide +kernel
theorem dX9_state_72 : decode cX9_state 72 = .ok (.aload_n 0, 1) := by decide +kernel
theorem dX9_state_73 : decode cX9_state 73 = .ok (.getfield 16, 3) := by decide +kernel
theorem dX9_state_76 : decode cX9_state 76 = .ok (.bipush 40, 2) := by decide +kernel
theorem dX9_state_78 : decode cX9_state 78 = .ok (.iload_n 1, 1) := by decide +kernel
theorem dX9_state_79 : decode cX9_state 79 = .ok (.imul, 1) := by decide +kernel
theorem dX9_state_80 : decode cX9_state 80 = .ok (.iload_n 2, 1) := by decide +kernel
theorem dX9_state_81 : decode cX9_state 81 = .ok (.iadd, 1) := by decide +kernel
theorem dX9_state_82 : decode cX9_state 82 = .ok (.iconst 2, 1) := by decide +kernel
theorem dX9_state_83 : decode cX9_state 83 = .ok (.iload 4, 2) := by decide +kernel
theorem dX9_state_85 : decode cX9_state 85 = .ok (.imul, 1) := by decide +kernel
theorem dX9_state_86 : decode cX9_state 86 = .ok (.iadd, 1) := by decide +kernel
theorem dX9_state_87 : decode cX9_state 87 = .ok (.iaload, 1) := by decide +kernel
theorem dX9_state_88 : decode cX9_state 88 = .ok (.goto 5, 3) := by decide +kernel
theorem dX9_state_91 : decode cX9_state 91 = .ok (.iload 4, 2) := by decide +kernel
theorem dX9_state_93 : decode cX9_state 93 = .ok (.istore 6, 2) := by decide +kernel
theorem dX9_state_95 : decode cX9_state 95 = .ok (.iload 5, 2) := by decide +kernel
theorem dX9_state_97 : decode cX9_state 97 = .ok (.ifCond .eq 24, 3) := by decide +kernel
theorem dX9_state_100 : decode cX9_state 100 = .ok (.aload_n 0, 1) := by decide +kernel
theorem dX9_state_101 : decode cX9_state 101 = .ok (.getfield 16, 3) := by decide +kernel
theorem dX9_state_104 : decode cX9_state 104 = .ok (.bipush 40, 2) := by decide +kernel
theorem dX9_state_106 : decode cX9_state 106 = .ok (.iload_n 1, 1) := by decide +kernel
theorem dX9_state_107 : decode cX9_state 107 = .ok (.imul, 1) := by decide +kernel
theorem dX9_state_108 : decode cX9_state 108 = .ok (.iload_n 2, 1) := by decide +kernel
theorem dX9_state_109 : decode cX9_state 109 = .ok (.iadd, 1) := by decide +kernel
theorem dX9_state_110 : decode cX9_state 110 = .ok (.iconst 2, 1) := by decide +kernel
theorem dX9_state_111 : decode cX9_state 111 = .ok (.iload 4, 2) := by decide +kernel
theorem dX9_state_113 : decode cX9_state 113 = .ok (.imul, 1) := by decide +kernel
theorem dX9_state_114 : decode cX9_state 114 = .ok (.iadd, 1) := by decide +kernel
theorem dX9_state_115 : decode cX9_state 115 = .ok (.iconst 1, 1) := by decide +kernel
theorem dX9_state_116 : decode cX9_state 116 = .ok (.iadd, 1) := by decide +kernel
theorem dX9_state_117 : decode cX9_state 117 = .ok (.iaload, 1) := by decide +kernel
theorem dX9_state_118 : decode cX9_state 118 = .ok (.goto 4, 3) := by decide +kernel
theorem dX9_state_121 : decode cX9_state 121 = .ok (.iconst (-1), 1) := by decide +kernel
theorem dX9_state_122 : decode cX9_state 122 = .ok (.istore 7, 2) := by decide +kernel
theorem dX9_state_124 : decode cX9_state 124 = .ok (.iload_n 3, 1) := by decide +kernel
theorem dX9_state_125 : decode cX9_state 125 = .ok (.ifCond .eq 39, 3) := by decide +kernel
theorem dX9_state_128 : decode cX9_state 128 = .ok (.iload 6, 2) := by decide +kernel
theorem dX9_state_130 : decode cX9_state 130 = .ok (.i2l, 1) := by decide +kernel
theorem dX9_state_131 : decode cX9_state 131 = .ok (.lconst 0, 1) := by decide +kernel
theorem dX9_state_132 : decode cX9_state 132 = .ok (.aload_n 0, 1) := by decide +kernel
theorem dX9_state_133 : decode cX9_state 133 = .ok (.getfield 19, 3) := by decide +kernel
theorem dX9_state_136 : decode cX9_state 136 = .ok (.iconst 1, 1) := by decide +kernel
theorem dX9_state_137 : decode cX9_state 137 = .ok (.isub, 1) := by decide +kernel
theorem dX9_state_138 : decode cX9_state 138 = .ok (.i2l, 1) := by decide +kernel
theorem dX9_state_139 : decode cX9_state 139 = .ok (.invokestatic 99, 3) := by decide +kernel
theorem dX9_state_142 : decode cX9_state 142 = .ok (.ifCond .eq 22, 3) := by decide +kernel
theorem dX9_state_145 : decode cX9_state 145 = .ok (.iload 7, 2) := by decide +kernel
theorem dX9_state_147 : decode cX9_state 147 = .ok (.i2l, 1) := by decide +kernel
theorem dX9_state_148 : decode cX9_state 148 = .ok (.ldc2_w 119, 3) := by decide +kernel
theorem dX9_state_151 : decode cX9_state 151 = .ok (.ldc2_w 103, 3) := by decide +kernel
theorem dX9_state_154 : decode cX9_state 154 = .ok (.invokestatic 99, 3) := by decide +kernel
theorem dX9_state_157 : decode cX9_state 157 = .ok (.ifCond .eq 7, 3) := by decide +kernel
theorem dX9_state_160 : decode cX9_state 160 = .ok (.iconst 1, 1) := by decide +kernel
theorem dX9_state_161 : decode cX9_state 161 = .ok (.goto 4, 3) := by decide +kernel
theorem dX9_state_164 : decode cX9_state 164 = .ok (.iconst 0, 1) := by decide +kernel
theorem dX9_state_165 : decode cX9_state 165 = .ok (.istore_n 3, 1) := by decide +kernel
theorem dX9_state_166 : decode cX9_state 166 = .ok (.iinc 4 1, 3) := by decide +kernel
theorem dX9_state_169 : decode cX9_state 169 = .ok (.goto (-139), 3) := by decide +kernel
theorem dX9_state_172 : decode cX9_state 172 = .ok (.iload_n 3, 1) := by decide +kernel
theorem dX9_state_173 : decode cX9_state 173 = .ok (.ifCond .ne 5, 3) := by decide +kernel
theorem dX9_state_176 : decode cX9_state 176 = .ok (.iconst (-1), 1) := by decide +kernel
theorem dX9_state_177 : decode cX9_state 177 = .ok (.ireturn, 1) := by decide +kernel
theorem dX9_state_178 : decode cX9_state 178 = .ok (.aload_n 0, 1) := by decide +kernel
theorem dX9_state_179 : decode cX9_state 179 = .ok (.getfield 116, 3) := by decide +kernel
theorem dX9_state_182 : decode cX9_state 182 = .ok (.bipush 8, 2) := by decide +kernel
theorem dX9_state_184 : decode cX9_state 184 = .ok (.if_icmp .ne 6, 3) := by decide +kernel
theorem dX9_state_187 : decode cX9_state 187 = .ok (.bipush (-2), 2) := by decide +kernel
theorem dX9_state_189 : decode cX9_state 189 = .ok (.ireturn, 1) := by decide +kernel
theorem dX9_state_190 : decode cX9_state 190 = .ok (.iconst 0, 1) := by decide +kernel
theorem dX9_state_191 : decode cX9_state 191 = .ok (.istore 4, 2) := by decide +kernel
theorem dX9_state_193 : decode cX9_state 193 = .ok (.iload 4, 2) := by decide +kernel
theorem dX9_state_195 : decode cX9_state 195 = .ok (.aload_n 0, 1) := by decide +kernel
theorem dX9_state_196 : decode cX9_state 196 = .ok (.getfield 19, 3) := by decide +kernel
theorem dX9_state_199 : decode cX9_state 199 = .ok (.if_icmp .ge 118, 3) := by decide +kernel
theorem dX9_state_202 : decode cX9_state 202 = .ok (.iload_n 2, 1) := by decide +kernel
theorem dX9_state_203 : decode cX9_state 203 = .ok (.i2l, 1) := by decide +kernel
theorem dX9_state_204 : decode cX9_state 204 = .ok (.iconst 2, 1) := by decide +kernel
theorem dX9_state_205 : decode cX9_state 205 = .ok (.iload 4, 2) := by decide +kernel
theorem dX9_state_207 : decode cX9_state 207 = .ok (.imul, 1) := by decide +kernel
theorem dX9_state_208 : decode cX9_state 208 = .ok (.i2l, 1) := by decide +kernel
theorem dX9_state_209 : decode cX9_state 209 = .ok (.ladd, 1) := by decide +kernel
theorem dX9_state_210 : decode cX9_state 210 = .ok (.lconst 1, 1) := by decide +kernel
theorem dX9_state_211 : decode cX9_state 211 = .ok (.ladd, 1) := by decide +kernel
theorem dX9_state_212 : decode cX9_state 212 = .ok (.aload_n 0, 1) := by decide +kernel
theorem dX9_state_213 : decode cX9_state 213 = .ok (.getfield 13, 3) := by decide +kernel
theorem dX9_state_216 : decode cX9_state 216 = .ok (.iload_n 1, 1) := by decide +kernel
theorem dX9_state_217 : decode cX9_state 217 = .ok (.iaload, 1) := by decide +kernel
theorem dX9_state_218 : decode cX9_state 218 = .ok (.i2l, 1) := by decide +kernel
theorem dX9_state_219 : decode cX9_state 219 = .ok (.lcmp, 1) := by decide +kernel
theorem dX9_state_220 : decode cX9_state 220 = .ok (.ifCond .ge 7, 3) := by decide +kernel
theorem dX9_state_223 : decode cX9_state 223 = .ok (.iconst 1, 1) := by decide +kernel
theorem dX9_state_224 : decode cX9_state 224 = .ok (.goto 4, 3) := by decide +kernel
theorem dX9_state_227 : decode cX9_state 227 = .ok (.iconst 0, 1) := by decide +kernel
theorem dX9_state_228 : decode cX9_state 228 = .ok (.istore 5, 2) := by decide +kernel
theorem dX9_state_230 : decode cX9_state 230 = .ok (.aload_n 0, 1) := by decide +kernel
theorem dX9_state_231 : decode cX9_state 231 = .ok (.getfield 23, 3) := by decide +kernel
theorem dX9_state_234 : decode cX9_state 234 = .ok (.iconst 4, 1) := by decide +kernel
theorem dX9_state_235 : decode cX9_state 235 = .ok (.aload_n 0, 1) := by decide +kernel
theorem dX9_state_236 : decode cX9_state 236 = .ok (.getfield 116, 3) := by decide +kernel
theorem dX9_state_239 : decode cX9_state 239 = .ok (.imul, 1) := by decide +kernel
theorem dX9_state_240 : decode cX9_state 240 = .ok (.iload 4, 2) := by decide +kernel
theorem dX9_state_242 : decode cX9_state 242 = .ok (.iadd, 1) := by decide +kernel
theorem dX9_state_243 : decode cX9_state 243 = .ok (.iload 5, 2) := by decide +kernel
theorem dX9_state_245 : decode cX9_state 245 = .ok (.ifCond .eq 22, 3) := by decide +kernel
theorem dX9_state_248 : decode cX9_state 248 = .ok (.aload_n 0, 1) := by decide +kernel
theorem dX9_state_249 : decode cX9_state 249 = .ok (.getfield 16, 3) := by decide +kernel
theorem dX9_state_252 : decode cX9_state 252 = .ok (.bipush 40, 2) := by decide +kernel
theorem dX9_state_254 : decode cX9_state 254 = .ok (.iload_n 1, 1) := by decide +kernel
theorem dX9_state_255 : decode cX9_state 255 = .ok (.imul, 1) := by decide +kernel
theorem dX9_state_256 : decode cX9_state 256 = .ok (.iload_n 2, 1) := by decide +kernel
theorem dX9_state_257 : decode cX9_state 257 = .ok (.iadd, 1) := by decide +kernel
theorem dX9_state_258 : decode cX9_state 258 = .ok (.iconst 2, 1) := by decide +kernel
theorem dX9_state_259 : decode cX9_state 259 = .ok (.iload 4, 2) := by decide +kernel
theorem dX9_state_261 : decode cX9_state 261 = .ok (.imul, 1) := by decide +kernel
theorem dX9_state_262 : decode cX9_state 262 = .ok (.iadd, 1) := by decide +kernel
theorem dX9_state_263 : decode cX9_state 263 = .ok (.iaload, 1) := by decide +kernel
theorem dX9_state_264 : decode cX9_state 264 = .ok (.goto 5, 3) := by decide +kernel
theorem dX9_state_267 : decode cX9_state 267 = .ok (.iload 4, 2) := by decide +kernel
theorem dX9_state_269 : decode cX9_state 269 = .ok (.iastore, 1) := by decide +kernel
theorem dX9_state_270 : decode cX9_state 270 = .ok (.aload_n 0, 1) := by decide +kernel
theorem dX9_state_271 : decode cX9_state 271 = .ok (.getfield 26, 3) := by decide +kernel
theorem dX9_state_274 : decode cX9_state 274 = .ok (.iconst 4, 1) := by decide +kernel
theorem dX9_state_275 : decode cX9_state 275 = .ok (.aload_n 0, 1) := by decide +kernel
theorem dX9_state_276 : decode cX9_state 276 = .ok (.getfield 116, 3) := by decide +kernel
theorem dX9_state_279 : decode cX9_state 279 = .ok (.imul, 1) := by decide +kernel
theorem dX9_state_280 : decode cX9_state 280 = .ok (.iload 4, 2) := by decide +kernel
theorem dX9_state_282 : decode cX9_state 282 = .ok (.iadd, 1) := by decide +kernel
theorem dX9_state_283 : decode cX9_state 283 = .ok (.iload 5, 2) := by decide +kernel
theorem dX9_state_285 : decode cX9_state 285 = .ok (.ifCond .eq 24, 3) := by decide +kernel
theorem dX9_state_288 : decode cX9_state 288 = .ok (.aload_n 0, 1) := by decide +kernel
theorem dX9_state_289 : decode cX9_state 289 = .ok (.getfield 16, 3) := by decide +kernel
theorem dX9_state_292 : decode cX9_state 292 = .ok (.bipush 40, 2) := by decide +kernel
theorem dX9_state_294 : decode cX9_state 294 = .ok (.iload_n 1, 1) := by decide +kernel
theorem dX9_state_295 : decode cX9_state 295 = .ok (.imul, 1) := by decide +kernel
theorem dX9_state_296 : decode cX9_state 296 = .ok (.iload_n 2, 1) := by decide +kernel
theorem dX9_state_297 : decode cX9_state 297 = .ok (.iadd, 1) := by decide +kernel
theorem dX9_state_298 : decode cX9_state 298 = .ok (.iconst 2, 1) := by decide +kernel
theorem dX9_state_299 : decode cX9_state 299 = .ok (.iload 4, 2) := by decide +kernel
theorem dX9_state_301 : decode cX9_state 301 = .ok (.imul, 1) := by decide +kernel
theorem dX9_state_302 : decode cX9_state 302 = .ok (.iadd, 1) := by decide +kernel
theorem dX9_state_303 : decode cX9_state 303 = .ok (.iconst 1, 1) := by decide +kernel
theorem dX9_state_304 : decode cX9_state 304 = .ok (.iadd, 1) := by decide +kernel
theorem dX9_state_305 : decode cX9_state 305 = .ok (.iaload, 1) := by decide +kernel
theorem dX9_state_306 : decode cX9_state 306 = .ok (.goto 4, 3) := by decide +kernel
theorem dX9_state_309 : decode cX9_state 309 = .ok (.iconst (-1), 1) := by decide +kernel
theorem dX9_state_310 : decode cX9_state 310 = .ok (.iastore, 1) := by decide +kernel
theorem dX9_state_311 : decode cX9_state 311 = .ok (.iinc 4 1, 3) := by decide +kernel
theorem dX9_state_314 : decode cX9_state 314 = .ok (.goto (-121), 3) := by decide +kernel
theorem dX9_state_317 : decode cX9_state 317 = .ok (.aload_n 0, 1) := by decide +kernel
theorem dX9_state_318 : decode cX9_state 318 = .ok (.dup, 1) := by decide +kernel
theorem dX9_state_319 : decode cX9_state 319 = .ok (.getfield 116, 3) := by decide +kernel
theorem dX9_state_322 : decode cX9_state 322 = .ok (.iconst 1, 1) := by decide +kernel
theorem dX9_state_323 : decode cX9_state 323 = .ok (.iadd, 1) := by decide +kernel
theorem dX9_state_324 : decode cX9_state 324 = .ok (.putfield 116, 3) := by decide +kernel
theorem dX9_state_327 : decode cX9_state 327 = .ok (.aload_n 0, 1) := by decide +kernel
theorem dX9_state_328 : decode cX9_state 328 = .ok (.getfield 116, 3) := by decide +kernel
theorem dX9_state_331 : decode cX9_state 331 = .ok (.iconst 1, 1) := by decide +kernel
theorem dX9_state_332 : decode cX9_state 332 = .ok (.isub, 1) := by decide +kernel
theorem dX9_state_333 : decode cX9_state 333 = .ok (.ireturn, 1) := by decide +kernel
theorem dX9_isFair_0 : decode cX9_isFair 0 = .ok (.iconst 1, 1) := by decide +kernel
theorem dX9_isFair_1 : decode cX9_isFair 1 = .ok (.istore_n 2, 1) := by decide +kernel
theorem dX9_isFair_2 : decode cX9_isFair 2 = .ok (.iconst 0, 1) := by decide +kernel
theorem dX9_isFair_3 : decode cX9_isFair 3 = .ok (.istore_n 3, 1) := by decide +kernel
theorem dX9_isFair_4 : decode cX9_isFair 4 = .ok (.iload_n 3, 1) := by decide +kernel
theorem dX9_isFair_5 : decode cX9_isFair 5 = .ok (.aload_n 0, 1) := by decide +kernel
theorem dX9_isFair_6 : decode cX9_isFair 6 = .ok (.getfield 19, 3) := by decide +kernel
theorem dX9_isFair_9 : decode cX9_isFair 9 = .ok (.if_icmp .ge 58, 3) := by decide +kernel
theorem dX9_isFair_12 : decode cX9_isFair 12 = .ok (.iconst 0, 1) := by decide +kernel
theorem dX9_isFair_13 : decode cX9_isFair 13 = .ok (.istore 4, 2) := by decide +kernel
theorem dX9_isFair_15 : decode cX9_isFair 15 = .ok (.iload 4, 2) := by decide +kernel
theorem dX9_isFair_17 : decode cX9_isFair 17 = .ok (.iload_n 3, 1) := by decide +kernel
theorem dX9_isFair_18 : decode cX9_isFair 18 = .ok (.if_icmp .ge 43, 3) := by decide +kernel
theorem dX9_isFair_21 : decode cX9_isFair 21 = .ok (.iload_n 2, 1) := by decide +kernel
theorem dX9_isFair_22 : decode cX9_isFair 22 = .ok (.ifCond .eq 31, 3) := by decide +kernel
theorem dX9_isFair_25 : decode cX9_isFair 25 = .ok (.aload_n 0, 1) := by decide +kernel
theorem dX9_isFair_26 : decode cX9_isFair 26 = .ok (.getfield 23, 3) := by decide +kernel
theorem dX9_isFair_29 : decode cX9_isFair 29 = .ok (.iconst 4, 1) := by decide +kernel
theorem dX9_isFair_30 : decode cX9_isFair 30 = .ok (.iload_n 1, 1) := by decide +kernel
theorem dX9_isFair_31 : decode cX9_isFair 31 = .ok (.imul, 1) := by decide +kernel
theorem dX9_isFair_32 : decode cX9_isFair 32 = .ok (.iload_n 3, 1) := by decide +kernel
theorem dX9_isFair_33 : decode cX9_isFair 33 = .ok (.iadd, 1) := by decide +kernel
theorem dX9_isFair_34 : decode cX9_isFair 34 = .ok (.iaload, 1) := by decide +kernel
theorem dX9_isFair_35 : decode cX9_isFair 35 = .ok (.aload_n 0, 1) := by decide +kernel
theorem dX9_isFair_36 : decode cX9_isFair 36 = .ok (.getfield 23, 3) := by decide +kernel
theorem dX9_isFair_39 : decode cX9_isFair 39 = .ok (.iconst 4, 1) := by decide +kernel
theorem dX9_isFair_40 : decode cX9_isFair 40 = .ok (.iload_n 1, 1) := by decide +kernel
theorem dX9_isFair_41 : decode cX9_isFair 41 = .ok (.imul, 1) := by decide +kernel
theorem dX9_isFair_42 : decode cX9_isFair 42 = .ok (.iload 4, 2) := by decide +kernel
theorem dX9_isFair_44 : decode cX9_isFair 44 = .ok (.iadd, 1) := by decide +kernel
theorem dX9_isFair_45 : decode cX9_isFair 45 = .ok (.iaload, 1) := by decide +kernel
theorem dX9_isFair_46 : decode cX9_isFair 46 = .ok (.if_icmp .eq 7, 3) := by decide +kernel
theorem dX9_isFair_49 : decode cX9_isFair 49 = .ok (.iconst 1, 1) := by decide +kernel
theorem dX9_isFair_50 : decode cX9_isFair 50 = .ok (.goto 4, 3) := by decide +kernel
theorem dX9_isFair_53 : decode cX9_isFair 53 = .ok (.iconst 0, 1) := by decide +kernel
theorem dX9_isFair_54 : decode cX9_isFair 54 = .ok (.istore_n 2, 1) := by decide +kernel
theorem dX9_isFair_55 : decode cX9_isFair 55 = .ok (.iinc 4 1, 3) := by decide +kernel
theorem dX9_isFair_58 : decode cX9_isFair 58 = .ok (.goto (-43), 3) := by decide +kernel
theorem dX9_isFair_61 : decode cX9_isFair 61 = .ok (.iinc 3 1, 3) := by decide +kernel
theorem dX9_isFair_64 : decode cX9_isFair 64 = .ok (.goto (-60), 3) := by decide +kernel
theorem dX9_isFair_67 : decode cX9_isFair 67 = .ok (.iload_n 2, 1) := by decide +kernel
theorem dX9_isFair_68 : decode cX9_isFair 68 = .ok (.ireturn, 1) := by decide +kernel
theorem dX9_isBack_0 : decode cX9_isBack 0 = .ok (.iconst 0, 1) := by decide +kernel
theorem dX9_isBack_1 : decode cX9_isBack 1 = .ok (.istore_n 2, 1) := by decide +kernel
theorem dX9_isBack_2 : decode cX9_isBack 2 = .ok (.iload_n 2, 1) := by decide +kernel
theorem dX9_isBack_3 : decode cX9_isBack 3 = .ok (.bipush 8, 2) := by decide +kernel
theorem dX9_isBack_5 : decode cX9_isBack 5 = .ok (.if_icmp .ge 25, 3) := by decide +kernel
theorem dX9_isBack_8 : decode cX9_isBack 8 = .ok (.aload_n 0, 1) := by decide +kernel
theorem dX9_isBack_9 : decode cX9_isBack 9 = .ok (.getfield 35, 3) := by decide +kernel
theorem dX9_isBack_12 : decode cX9_isBack 12 = .ok (.iload_n 2, 1) := by decide +kernel
theorem dX9_isBack_13 : decode cX9_isBack 13 = .ok (.iload_n 2, 1) := by decide +kernel
theorem dX9_isBack_14 : decode cX9_isBack 14 = .ok (.iload_n 1, 1) := by decide +kernel
theorem dX9_isBack_15 : decode cX9_isBack 15 = .ok (.if_icmp .ne 7, 3) := by decide +kernel
theorem dX9_isBack_18 : decode cX9_isBack 18 = .ok (.iconst 1, 1) := by decide +kernel
theorem dX9_isBack_19 : decode cX9_isBack 19 = .ok (.goto 4, 3) := by decide +kernel
theorem dX9_isBack_22 : decode cX9_isBack 22 = .ok (.iconst 0, 1) := by decide +kernel
theorem dX9_isBack_23 : decode cX9_isBack 23 = .ok (.bastore, 1) := by decide +kernel
theorem dX9_isBack_24 : decode cX9_isBack 24 = .ok (.iinc 2 1, 3) := by decide +kernel
theorem dX9_isBack_27 : decode cX9_isBack 27 = .ok (.goto (-25), 3) := by decide +kernel
theorem dX9_isBack_30 : decode cX9_isBack 30 = .ok (.iconst 0, 1) := by decide +kernel
theorem dX9_isBack_31 : decode cX9_isBack 31 = .ok (.istore_n 2, 1) := by decide +kernel
theorem dX9_isBack_32 : decode cX9_isBack 32 = .ok (.iload_n 2, 1) := by decide +kernel
theorem dX9_isBack_33 : decode cX9_isBack 33 = .ok (.bipush 8, 2) := by decide +kernel
theorem dX9_isBack_35 : decode cX9_isBack 35 = .ok (.if_icmp .ge 89, 3) := by decide +kernel
theorem dX9_isBack_38 : decode cX9_isBack 38 = .ok (.iconst 0, 1) := by decide +kernel
theorem dX9_isBack_39 : decode cX9_isBack 39 = .ok (.istore_n 3, 1) := by decide +kernel
theorem dX9_isBack_40 : decode cX9_isBack 40 = .ok (.iload_n 3, 1) := by decide +kernel
theorem dX9_isBack_41 : decode cX9_isBack 41 = .ok (.bipush 8, 2) := by decide +kernel
theorem dX9_isBack_43 : decode cX9_isBack 43 = .ok (.if_icmp .ge 75, 3) := by decide +kernel
theorem dX9_isBack_46 : decode cX9_isBack 46 = .ok (.iconst 0, 1) := by decide +kernel
theorem dX9_isBack_47 : decode cX9_isBack 47 = .ok (.istore 4, 2) := by decide +kernel
theorem dX9_isBack_49 : decode cX9_isBack 49 = .ok (.iload 4, 2) := by decide +kernel
theorem dX9_isBack_51 : decode cX9_isBack 51 = .ok (.aload_n 0, 1) := by decide +kernel
theorem dX9_isBack_52 : decode cX9_isBack 52 = .ok (.getfield 19, 3) := by decide +kernel
theorem dX9_isBack_55 : decode cX9_isBack 55 = .ok (.if_icmp .ge 57, 3) := by decide +kernel
theorem dX9_isBack_58 : decode cX9_isBack 58 = .ok (.aload_n 0, 1) := by decide +kernel
theorem dX9_isBack_59 : decode cX9_isBack 59 = .ok (.getfield 35, 3) := by decide +kernel
theorem dX9_isBack_62 : decode cX9_isBack 62 = .ok (.iload_n 3, 1) := by decide +kernel
theorem dX9_isBack_63 : decode cX9_isBack 63 = .ok (.baload, 1) := by decide +kernel
theorem dX9_isBack_64 : decode cX9_isBack 64 = .ok (.ifCond .eq 48, 3) := by decide +kernel
theorem dX9_isBack_67 : decode cX9_isBack 67 = .ok (.iload_n 3, 1) := by decide +kernel
theorem dX9_isBack_68 : decode cX9_isBack 68 = .ok (.aload_n 0, 1) := by decide +kernel
theorem dX9_isBack_69 : decode cX9_isBack 69 = .ok (.getfield 116, 3) := by decide +kernel
theorem dX9_isBack_72 : decode cX9_isBack 72 = .ok (.if_icmp .ge 40, 3) := by decide +kernel
theorem dX9_isBack_75 : decode cX9_isBack 75 = .ok (.aload_n 0, 1) := by decide +kernel
theorem dX9_isBack_76 : decode cX9_isBack 76 = .ok (.getfield 26, 3) := by decide +kernel
theorem dX9_isBack_79 : decode cX9_isBack 79 = .ok (.iconst 4, 1) := by decide +kernel
theorem dX9_isBack_80 : decode cX9_isBack 80 = .ok (.iload_n 3, 1) := by decide +kernel
theorem dX9_isBack_81 : decode cX9_isBack 81 = .ok (.imul, 1) := by decide +kernel
theorem dX9_isBack_82 : decode cX9_isBack 82 = .ok (.iload 4, 2) := by decide +kernel
theorem dX9_isBack_84 : decode cX9_isBack 84 = .ok (.iadd, 1) := by decide +kernel
theorem dX9_isBack_85 : decode cX9_isBack 85 = .ok (.iaload, 1) := by decide +kernel
theorem dX9_isBack_86 : decode cX9_isBack 86 = .ok (.ifCond .lt 20, 3) := by decide +kernel
theorem dX9_isBack_89 : decode cX9_isBack 89 = .ok (.aload_n 0, 1) := by decide +kernel
theorem dX9_isBack_90 : decode cX9_isBack 90 = .ok (.getfield 35, 3) := by decide +kernel
theorem dX9_isBack_93 : decode cX9_isBack 93 = .ok (.aload_n 0, 1) := by decide +kernel
theorem dX9_isBack_94 : decode cX9_isBack 94 = .ok (.getfield 26, 3) := by decide +kernel
theorem dX9_isBack_97 : decode cX9_isBack 97 = .ok (.iconst 4, 1) := by decide +kernel
theorem dX9_isBack_98 : decode cX9_isBack 98 = .ok (.iload_n 3, 1) := by decide +kernel
theorem dX9_isBack_99 : decode cX9_isBack 99 = .ok (.imul, 1) := by decide +kernel
theorem dX9_isBack_100 : decode cX9_isBack 100 = .ok (.iload 4, 2) := by decide +kernel
theorem dX9_isBack_102 : decode cX9_isBack 102 = .ok (.iadd, 1) := by decide +kernel
theorem dX9_isBack_103 : decode cX9_isBack 103 = .ok (.iaload, 1) := by decide +kernel
theorem dX9_isBack_104 : decode cX9_isBack 104 = .ok (.iconst 1, 1) := by decide +kernel
theorem dX9_isBack_105 : decode cX9_isBack 105 = .ok (.bastore, 1) := by decide +kernel
theorem dX9_isBack_106 : decode cX9_isBack 106 = .ok (.iinc 4 1, 3) := by decide +kernel
theorem dX9_isBack_109 : decode cX9_isBack 109 = .ok (.goto (-60), 3) := by decide +kernel
theorem dX9_isBack_112 : decode cX9_isBack 112 = .ok (.iinc 3 1, 3) := by decide +kernel
theorem dX9_isBack_115 : decode cX9_isBack 115 = .ok (.goto (-75), 3) := by decide +kernel
theorem dX9_isBack_118 : decode cX9_isBack 118 = .ok (.iinc 2 1, 3) := by decide +kernel
theorem dX9_isBack_121 : decode cX9_isBack 121 = .ok (.goto (-89), 3) := by decide +kernel
theorem dX9_isBack_124 : decode cX9_isBack 124 = .ok (.iconst 1, 1) := by decide +kernel
theorem dX9_isBack_125 : decode cX9_isBack 125 = .ok (.istore_n 2, 1) := by decide +kernel
theorem dX9_isBack_126 : decode cX9_isBack 126 = .ok (.iconst 0, 1) := by decide +kernel
theorem dX9_isBack_127 : decode cX9_isBack 127 = .ok (.istore_n 3, 1) := by decide +kernel
theorem dX9_isBack_128 : decode cX9_isBack 128 = .ok (.iload_n 3, 1) := by decide +kernel
theorem dX9_isBack_129 : decode cX9_isBack 129 = .ok (.bipush 8, 2) := by decide +kernel
theorem dX9_isBack_131 : decode cX9_isBack 131 = .ok (.if_icmp .ge 44, 3) := by decide +kernel
theorem dX9_isBack_134 : decode cX9_isBack 134 = .ok (.iload_n 2, 1) := by decide +kernel
theorem dX9_isBack_135 : decode cX9_isBack 135 = .ok (.ifCond .eq 32, 3) := by decide +kernel
theorem dX9_isBack_138 : decode cX9_isBack 138 = .ok (.aload_n 0, 1) := by decide +kernel
theorem dX9_isBack_139 : decode cX9_isBack 139 = .ok (.getfield 35, 3) := by decide +kernel
theorem dX9_isBack_142 : decode cX9_isBack 142 = .ok (.iload_n 3, 1) := by decide +kernel
theorem dX9_isBack_143 : decode cX9_isBack 143 = .ok (.baload, 1) := by decide +kernel
theorem dX9_isBack_144 : decode cX9_isBack 144 = .ok (.ifCond .eq 19, 3) := by decide +kernel
theorem dX9_isBack_147 : decode cX9_isBack 147 = .ok (.iload_n 3, 1) := by decide +kernel
theorem dX9_isBack_148 : decode cX9_isBack 148 = .ok (.aload_n 0, 1) := by decide +kernel
theorem dX9_isBack_149 : decode cX9_isBack 149 = .ok (.getfield 116, 3) := by decide +kernel
theorem dX9_isBack_152 : decode cX9_isBack 152 = .ok (.if_icmp .ge 15, 3) := by decide +kernel
theorem dX9_isBack_155 : decode cX9_isBack 155 = .ok (.aload_n 0, 1) := by decide +kernel
theorem dX9_isBack_156 : decode cX9_isBack 156 = .ok (.iload_n 3, 1) := by decide +kernel
theorem dX9_isBack_157 : decode cX9_isBack 157 = .ok (.invokevirtual 121, 3) := by decide +kernel
theorem dX9_isBack_160 : decode cX9_isBack 160 = .ok (.ifCond .eq 7, 3) := by decide +kernel
theorem dX9_isBack_163 : decode cX9_isBack 163 = .ok (.iconst 1, 1) := by decide +kernel
theorem dX9_isBack_164 : decode cX9_isBack 164 = .ok (.goto 4, 3) := by decide +kernel
theorem dX9_isBack_167 : decode cX9_isBack 167 = .ok (.iconst 0, 1) := by decide +kernel
theorem dX9_isBack_168 : decode cX9_isBack 168 = .ok (.istore_n 2, 1) := by decide +kernel
theorem dX9_isBack_169 : decode cX9_isBack 169 = .ok (.iinc 3 1, 3) := by decide +kernel
theorem dX9_isBack_172 : decode cX9_isBack 172 = .ok (.goto (-44), 3) := by decide +kernel
theorem dX9_isBack_175 : decode cX9_isBack 175 = .ok (.iload_n 2, 1) := by decide +kernel
theorem dX9_isBack_176 : decode cX9_isBack 176 = .ok (.ireturn, 1) := by decide +kernel
theorem dX9_change_0 : decode cX9_change 0 = .ok (.iload_n 1, 1) := by decide +kernel
theorem dX9_change_1 : decode cX9_change 1 = .ok (.i2l, 1) := by decide +kernel
theorem dX9_change_2 : decode cX9_change 2 = .ok (.lconst 0, 1) := by decide +kernel
theorem dX9_change_3 : decode cX9_change 3 = .ok (.aload_n 0, 1) := by decide +kernel
theorem dX9_change_4 : decode cX9_change 4 = .ok (.getfield 116, 3) := by decide +kernel
theorem dX9_change_7 : decode cX9_change 7 = .ok (.iconst 1, 1) := by decide +kernel
theorem dX9_change_8 : decode cX9_change 8 = .ok (.isub, 1) := by decide +kernel
theorem dX9_change_9 : decode cX9_change 9 = .ok (.i2l, 1) := by decide +kernel
theorem dX9_change_10 : decode cX9_change 10 = .ok (.invokestatic 99, 3) := by decide +kernel
theorem dX9_change_13 : decode cX9_change 13 = .ok (.ifCond .eq 50, 3) := by decide +kernel
theorem dX9_change_16 : decode cX9_change 16 = .ok (.iload_n 2, 1) := by decide +kernel
theorem dX9_change_17 : decode cX9_change 17 = .ok (.i2l, 1) := by decide +kernel
theorem dX9_change_18 : decode cX9_change 18 = .ok (.lconst 0, 1) := by decide +kernel
theorem dX9_change_19 : decode cX9_change 19 = .ok (.aload_n 0, 1) := by decide +kernel
theorem dX9_change_20 : decode cX9_change 20 = .ok (.getfield 19, 3) := by decide +kernel
theorem dX9_change_23 : decode cX9_change 23 = .ok (.iconst 1, 1) := by decide +kernel
theorem dX9_change_24 : decode cX9_change 24 = .ok (.isub, 1) := by decide +kernel
theorem dX9_change_25 : decode cX9_change 25 = .ok (.i2l, 1) := by decide +kernel
theorem dX9_change_26 : decode cX9_change 26 = .ok (.invokestatic 99, 3) := by decide +kernel
theorem dX9_change_29 : decode cX9_change 29 = .ok (.ifCond .eq 34, 3) := by decide +kernel
theorem dX9_change_32 : decode cX9_change 32 = .ok (.iload_n 3, 1) := by decide +kernel
theorem dX9_change_33 : decode cX9_change 33 = .ok (.i2l, 1) := by decide +kernel
theorem dX9_change_34 : decode cX9_change 34 = .ok (.lconst 0, 1) := by decide +kernel
theorem dX9_change_35 : decode cX9_change 35 = .ok (.aload_n 0, 1) := by decide +kernel
theorem dX9_change_36 : decode cX9_change 36 = .ok (.getfield 19, 3) := by decide +kernel
theorem dX9_change_39 : decode cX9_change 39 = .ok (.iconst 1, 1) := by decide +kernel
theorem dX9_change_40 : decode cX9_change 40 = .ok (.isub, 1) := by decide +kernel
theorem dX9_change_41 : decode cX9_change 41 = .ok (.i2l, 1) := by decide +kernel
theorem dX9_change_42 : decode cX9_change 42 = .ok (.invokestatic 99, 3) := by decide +kernel
theorem dX9_change_45 : decode cX9_change 45 = .ok (.ifCond .eq 18, 3) := by decide +kernel
theorem dX9_change_48 : decode cX9_change 48 = .ok (.iload 4, 2) := by decide +kernel
theorem dX9_change_50 : decode cX9_change 50 = .ok (.i2l, 1) := by decide +kernel
theorem dX9_change_51 : decode cX9_change 51 = .ok (.ldc2_w 119, 3) := by decide +kernel
theorem dX9_change_54 : decode cX9_change 54 = .ok (.ldc2_w 103, 3) := by decide +kernel
theorem dX9_change_57 : decode cX9_change 57 = .ok (.invokestatic 99, 3) := by decide +kernel
theorem dX9_change_60 : decode cX9_change 60 = .ok (.ifCond .ne 5, 3) := by decide +kernel
theorem dX9_change_63 : decode cX9_change 63 = .ok (.iconst (-1), 1) := by decide +kernel
theorem dX9_change_64 : decode cX9_change 64 = .ok (.ireturn, 1) := by decide +kernel
theorem dX9_change_65 : decode cX9_change 65 = .ok (.aload_n 0, 1) := by decide +kernel
theorem dX9_change_66 : decode cX9_change 66 = .ok (.getfield 23, 3) := by decide +kernel
theorem dX9_change_69 : decode cX9_change 69 = .ok (.iconst 4, 1) := by decide +kernel
theorem dX9_change_70 : decode cX9_change 70 = .ok (.iload_n 1, 1) := by decide +kernel
theorem dX9_change_71 : decode cX9_change 71 = .ok (.imul, 1) := by decide +kernel
theorem dX9_change_72 : decode cX9_change 72 = .ok (.iload_n 2, 1) := by decide +kernel
theorem dX9_change_73 : decode cX9_change 73 = .ok (.iadd, 1) := by decide +kernel
theorem dX9_change_74 : decode cX9_change 74 = .ok (.iload_n 3, 1) := by decide +kernel
theorem dX9_change_75 : decode cX9_change 75 = .ok (.iastore, 1) := by decide +kernel
theorem dX9_change_76 : decode cX9_change 76 = .ok (.aload_n 0, 1) := by decide +kernel
theorem dX9_change_77 : decode cX9_change 77 = .ok (.getfield 26, 3) := by decide +kernel
theorem dX9_change_80 : decode cX9_change 80 = .ok (.iconst 4, 1) := by decide +kernel
theorem dX9_change_81 : decode cX9_change 81 = .ok (.iload_n 1, 1) := by decide +kernel
theorem dX9_change_82 : decode cX9_change 82 = .ok (.imul, 1) := by decide +kernel
theorem dX9_change_83 : decode cX9_change 83 = .ok (.iload_n 2, 1) := by decide +kernel
theorem dX9_change_84 : decode cX9_change 84 = .ok (.iadd, 1) := by decide +kernel
theorem dX9_change_85 : decode cX9_change 85 = .ok (.iload 4, 2) := by decide +kernel
theorem dX9_change_87 : decode cX9_change 87 = .ok (.iastore, 1) := by decide +kernel
theorem dX9_change_88 : decode cX9_change 88 = .ok (.iconst 0, 1) := by decide +kernel
theorem dX9_change_89 : decode cX9_change 89 = .ok (.istore 5, 2) := by decide +kernel
theorem dX9_change_91 : decode cX9_change 91 = .ok (.iload 5, 2) := by decide +kernel
theorem dX9_change_93 : decode cX9_change 93 = .ok (.bipush 8, 2) := by decide +kernel
theorem dX9_change_95 : decode cX9_change 95 = .ok (.if_icmp .ge 100, 3) := by decide +kernel
theorem dX9_change_98 : decode cX9_change 98 = .ok (.iconst 1, 1) := by decide +kernel
theorem dX9_change_99 : decode cX9_change 99 = .ok (.istore 6, 2) := by decide +kernel
theorem dX9_change_101 : decode cX9_change 101 = .ok (.iconst 0, 1) := by decide +kernel
theorem dX9_change_102 : decode cX9_change 102 = .ok (.istore 7, 2) := by decide +kernel
theorem dX9_change_104 : decode cX9_change 104 = .ok (.iload 7, 2) := by decide +kernel
theorem dX9_change_106 : decode cX9_change 106 = .ok (.aload_n 0, 1) := by decide +kernel
theorem dX9_change_107 : decode cX9_change 107 = .ok (.getfield 32, 3) := by decide +kernel
theorem dX9_change_110 : decode cX9_change 110 = .ok (.iload 5, 2) := by decide +kernel
theorem dX9_change_112 : decode cX9_change 112 = .ok (.iaload, 1) := by decide +kernel
theorem dX9_change_113 : decode cX9_change 113 = .ok (.if_icmp .ge 53, 3) := by decide +kernel
theorem dX9_change_116 : decode cX9_change 116 = .ok (.aload_n 0, 1) := by decide +kernel
theorem dX9_change_117 : decode cX9_change 117 = .ok (.getfield 29, 3) := by decide +kernel
theorem dX9_change_120 : decode cX9_change 120 = .ok (.bipush 34, 2) := by decide +kernel
theorem dX9_change_122 : decode cX9_change 122 = .ok (.iload 5, 2) := by decide +kernel
theorem dX9_change_124 : decode cX9_change 124 = .ok (.imul, 1) := by decide +kernel
theorem dX9_change_125 : decode cX9_change 125 = .ok (.iload 7, 2) := by decide +kernel
theorem dX9_change_127 : decode cX9_change 127 = .ok (.iadd, 1) := by decide +kernel
theorem dX9_change_128 : decode cX9_change 128 = .ok (.iaload, 1) := by decide +kernel
theorem dX9_change_129 : decode cX9_change 129 = .ok (.istore 8, 2) := by decide +kernel
theorem dX9_change_131 : decode cX9_change 131 = .ok (.iload 6, 2) := by decide +kernel
theorem dX9_change_133 : decode cX9_change 133 = .ok (.ifCond .eq 24, 3) := by decide +kernel
theorem dX9_change_136 : decode cX9_change 136 = .ok (.iload 8, 2) := by decide +kernel
theorem dX9_change_138 : decode cX9_change 138 = .ok (.ifCond .gt 15, 3) := by decide +kernel
theorem dX9_change_141 : decode cX9_change 141 = .ok (.aload_n 0, 1) := by decide +kernel
theorem dX9_change_142 : decode cX9_change 142 = .ok (.iload 8, 2) := by decide +kernel
theorem dX9_change_144 : decode cX9_change 144 = .ok (.ineg, 1) := by decide +kernel
theorem dX9_change_145 : decode cX9_change 145 = .ok (.iconst 1, 1) := by decide +kernel
theorem dX9_change_146 : decode cX9_change 146 = .ok (.isub, 1) := by decide +kernel
theorem dX9_change_147 : decode cX9_change 147 = .ok (.invokevirtual 124, 3) := by decide +kernel
theorem dX9_change_150 : decode cX9_change 150 = .ok (.ifCond .eq 7, 3) := by decide +kernel
theorem dX9_change_153 : decode cX9_change 153 = .ok (.iconst 1, 1) := by decide +kernel
theorem dX9_change_154 : decode cX9_change 154 = .ok (.goto 4, 3) := by decide +kernel
theorem dX9_change_157 : decode cX9_change 157 = .ok (.iconst 0, 1) := by decide +kernel
theorem dX9_change_158 : decode cX9_change 158 = .ok (.istore 6, 2) := by decide +kernel
theorem dX9_change_160 : decode cX9_change 160 = .ok (.iinc 7 1, 3) := by decide +kernel
theorem dX9_change_163 : decode cX9_change 163 = .ok (.goto (-59), 3) := by decide +kernel
theorem dX9_change_166 : decode cX9_change 166 = .ok (.aload_n 0, 1) := by decide +kernel
theorem dX9_change_167 : decode cX9_change 167 = .ok (.getfield 32, 3) := by decide +kernel
theorem dX9_change_170 : decode cX9_change 170 = .ok (.iload 5, 2) := by decide +kernel
theorem dX9_change_172 : decode cX9_change 172 = .ok (.iload 6, 2) := by decide +kernel
theorem dX9_change_174 : decode cX9_change 174 = .ok (.ifCond .eq 13, 3) := by decide +kernel
theorem dX9_change_177 : decode cX9_change 177 = .ok (.aload_n 0, 1) := by decide +kernel
theorem dX9_change_178 : decode cX9_change 178 = .ok (.getfield 32, 3) := by decide +kernel
theorem dX9_change_181 : decode cX9_change 181 = .ok (.iload 5, 2) := by decide +kernel
theorem dX9_change_183 : decode cX9_change 183 = .ok (.iaload, 1) := by decide +kernel
theorem dX9_change_184 : decode cX9_change 184 = .ok (.goto 4, 3) := by decide +kernel
theorem dX9_change_187 : decode cX9_change 187 = .ok (.iconst 0, 1) := by decide +kernel
theorem dX9_change_188 : decode cX9_change 188 = .ok (.iastore, 1) := by decide +kernel
theorem dX9_change_189 : decode cX9_change 189 = .ok (.iinc 5 1, 3) := by decide +kernel
theorem dX9_change_192 : decode cX9_change 192 = .ok (.goto (-101), 3) := by decide +kernel
theorem dX9_change_195 : decode cX9_change 195 = .ok (.iconst 1, 1) := by decide +kernel
theorem dX9_change_196 : decode cX9_change 196 = .ok (.ireturn, 1) := by decide +kernel
theorem dX9_of_0 : decode cX9_of 0 = .ok (.iload_n 1, 1) := by decide +kernel
theorem dX9_of_1 : decode cX9_of 1 = .ok (.i2l, 1) := by decide +kernel
theorem dX9_of_2 : decode cX9_of 2 = .ok (.lconst 0, 1) := by decide +kernel
theorem dX9_of_3 : decode cX9_of 3 = .ok (.aload_n 0, 1) := by decide +kernel
theorem dX9_of_4 : decode cX9_of 4 = .ok (.getfield 116, 3) := by decide +kernel
theorem dX9_of_7 : decode cX9_of 7 = .ok (.iconst 1, 1) := by decide +kernel
theorem dX9_of_8 : decode cX9_of 8 = .ok (.isub, 1) := by decide +kernel
theorem dX9_of_9 : decode cX9_of 9 = .ok (.i2l, 1) := by decide +kernel
theorem dX9_of_10 : decode cX9_of 10 = .ok (.invokestatic 99, 3) := by decide +kernel
theorem dX9_of_13 : decode cX9_of 13 = .ok (.ifCond .eq 36, 3) := by decide +kernel
theorem dX9_of_16 : decode cX9_of 16 = .ok (.iload_n 3, 1) := by decide +kernel
theorem dX9_of_17 : decode cX9_of 17 = .ok (.i2l, 1) := by decide +kernel
theorem dX9_of_18 : decode cX9_of 18 = .ok (.lconst 0, 1) := by decide +kernel
theorem dX9_of_19 : decode cX9_of 19 = .ok (.ldc2_w 109, 3) := by decide +kernel
theorem dX9_of_22 : decode cX9_of 22 = .ok (.invokestatic 99, 3) := by decide +kernel
theorem dX9_of_25 : decode cX9_of 25 = .ok (.ifCond .eq 24, 3) := by decide +kernel
theorem dX9_of_28 : decode cX9_of 28 = .ok (.iload_n 3, 1) := by decide +kernel
theorem dX9_of_29 : decode cX9_of 29 = .ok (.iconst 2, 1) := by decide +kernel
theorem dX9_of_30 : decode cX9_of 30 = .ok (.if_icmp .ge 22, 3) := by decide +kernel
theorem dX9_of_33 : decode cX9_of 33 = .ok (.iload_n 2, 1) := by decide +kernel
theorem dX9_of_34 : decode cX9_of 34 = .ok (.i2l, 1) := by decide +kernel
theorem dX9_of_35 : decode cX9_of 35 = .ok (.lconst 0, 1) := by decide +kernel
theorem dX9_of_36 : decode cX9_of 36 = .ok (.aload_n 0, 1) := by decide +kernel
theorem dX9_of_37 : decode cX9_of 37 = .ok (.getfield 19, 3) := by decide +kernel
theorem dX9_of_40 : decode cX9_of 40 = .ok (.iconst 1, 1) := by decide +kernel
theorem dX9_of_41 : decode cX9_of 41 = .ok (.isub, 1) := by decide +kernel
theorem dX9_of_42 : decode cX9_of 42 = .ok (.i2l, 1) := by decide +kernel
theorem dX9_of_43 : decode cX9_of 43 = .ok (.invokestatic 99, 3) := by decide +kernel
theorem dX9_of_46 : decode cX9_of 46 = .ok (.ifCond .ne 6, 3) := by decide +kernel
theorem dX9_of_49 : decode cX9_of 49 = .ok (.bipush (-2), 2) := by decide +kernel
theorem dX9_of_51 : decode cX9_of 51 = .ok (.ireturn, 1) := by decide +kernel
theorem dX9_of_52 : decode cX9_of 52 = .ok (.iload_n 3, 1) := by decide +kernel
theorem dX9_of_53 : decode cX9_of 53 = .ok (.ifCond .ne 16, 3) := by decide +kernel
theorem dX9_of_56 : decode cX9_of 56 = .ok (.aload_n 0, 1) := by decide +kernel
theorem dX9_of_57 : decode cX9_of 57 = .ok (.getfield 23, 3) := by decide +kernel
theorem dX9_of_60 : decode cX9_of 60 = .ok (.iconst 4, 1) := by decide +kernel
theorem dX9_of_61 : decode cX9_of 61 = .ok (.iload_n 1, 1) := by decide +kernel
theorem dX9_of_62 : decode cX9_of 62 = .ok (.imul, 1) := by decide +kernel
theorem dX9_of_63 : decode cX9_of 63 = .ok (.iload_n 2, 1) := by decide +kernel
theorem dX9_of_64 : decode cX9_of 64 = .ok (.iadd, 1) := by decide +kernel
theorem dX9_of_65 : decode cX9_of 65 = .ok (.iaload, 1) := by decide +kernel
theorem dX9_of_66 : decode cX9_of 66 = .ok (.goto 34, 3) := by decide +kernel
theorem dX9_of_69 : decode cX9_of 69 = .ok (.iload_n 3, 1) := by decide +kernel
theorem dX9_of_70 : decode cX9_of 70 = .ok (.iconst 1, 1) := by decide +kernel
theorem dX9_of_71 : decode cX9_of 71 = .ok (.if_icmp .ne 16, 3) := by decide +kernel
theorem dX9_of_74 : decode cX9_of 74 = .ok (.aload_n 0, 1) := by decide +kernel
theorem dX9_of_75 : decode cX9_of 75 = .ok (.getfield 26, 3) := by decide +kernel
theorem dX9_of_78 : decode cX9_of 78 = .ok (.iconst 4, 1) := by decide +kernel
theorem dX9_of_79 : decode cX9_of 79 = .ok (.iload_n 1, 1) := by decide +kernel
theorem dX9_of_80 : decode cX9_of 80 = .ok (.imul, 1) := by decide +kernel
theorem dX9_of_81 : decode cX9_of 81 = .ok (.iload_n 2, 1) := by decide +kernel
theorem dX9_of_82 : decode cX9_of 82 = .ok (.iadd, 1) := by decide +kernel
theorem dX9_of_83 : decode cX9_of 83 = .ok (.iaload, 1) := by decide +kernel
theorem dX9_of_84 : decode cX9_of 84 = .ok (.goto 16, 3) := by decide +kernel
theorem dX9_of_87 : decode cX9_of 87 = .ok (.aload_n 0, 1) := by decide +kernel
theorem dX9_of_88 : decode cX9_of 88 = .ok (.iload_n 1, 1) := by decide +kernel
theorem dX9_of_89 : decode cX9_of 89 = .ok (.invokevirtual 124, 3) := by decide +kernel
theorem dX9_of_92 : decode cX9_of 92 = .ok (.ifCond .eq 7, 3) := by decide +kernel
theorem dX9_of_95 : decode cX9_of 95 = .ok (.iconst 1, 1) := by decide +kernel
theorem dX9_of_96 : decode cX9_of 96 = .ok (.goto 4, 3) := by decide +kernel
theorem dX9_of_99 : decode cX9_of 99 = .ok (.iconst 0, 1) := by decide +kernel
theorem dX9_of_100 : decode cX9_of 100 = .ok (.ireturn, 1) := by decide +kernel
theorem dX9_isWhole_0 : decode cX9_isWhole 0 = .ok (.iconst 1, 1) := by decide +kernel
theorem dX9_isWhole_1 : decode cX9_isWhole 1 = .ok (.istore_n 1, 1) := by decide +kernel
theorem dX9_isWhole_2 : decode cX9_isWhole 2 = .ok (.iconst 0, 1) := by decide +kernel
theorem dX9_isWhole_3 : decode cX9_isWhole 3 = .ok (.istore_n 2, 1) := by decide +kernel
theorem dX9_isWhole_4 : decode cX9_isWhole 4 = .ok (.iload_n 2, 1) := by decide +kernel
theorem dX9_isWhole_5 : decode cX9_isWhole 5 = .ok (.aload_n 0, 1) := by decide +kernel
theorem dX9_isWhole_6 : decode cX9_isWhole 6 = .ok (.getfield 116, 3) := by decide +kernel
theorem dX9_isWhole_9 : decode cX9_isWhole 9 = .ok (.if_icmp .ge 52, 3) := by decide +kernel
theorem dX9_isWhole_12 : decode cX9_isWhole 12 = .ok (.iconst 0, 1) := by decide +kernel
theorem dX9_isWhole_13 : decode cX9_isWhole 13 = .ok (.istore_n 3, 1) := by decide +kernel
theorem dX9_isWhole_14 : decode cX9_isWhole 14 = .ok (.iload_n 3, 1) := by decide +kernel
theorem dX9_isWhole_15 : decode cX9_isWhole 15 = .ok (.aload_n 0, 1) := by decide +kernel
theorem dX9_isWhole_16 : decode cX9_isWhole 16 = .ok (.getfield 19, 3) := by decide +kernel
theorem dX9_isWhole_19 : decode cX9_isWhole 19 = .ok (.if_icmp .ge 36, 3) := by decide +kernel
theorem dX9_isWhole_22 : decode cX9_isWhole 22 = .ok (.iload_n 1, 1) := by decide +kernel
theorem dX9_isWhole_23 : decode cX9_isWhole 23 = .ok (.ifCond .eq 24, 3) := by decide +kernel
theorem dX9_isWhole_26 : decode cX9_isWhole 26 = .ok (.aload_n 0, 1) := by decide +kernel
theorem dX9_isWhole_27 : decode cX9_isWhole 27 = .ok (.getfield 26, 3) := by decide +kernel
theorem dX9_isWhole_30 : decode cX9_isWhole 30 = .ok (.iconst 4, 1) := by decide +kernel
theorem dX9_isWhole_31 : decode cX9_isWhole 31 = .ok (.iload_n 2, 1) := by decide +kernel
theorem dX9_isWhole_32 : decode cX9_isWhole 32 = .ok (.imul, 1) := by decide +kernel
theorem dX9_isWhole_33 : decode cX9_isWhole 33 = .ok (.iload_n 3, 1) := by decide +kernel
theorem dX9_isWhole_34 : decode cX9_isWhole 34 = .ok (.iadd, 1) := by decide +kernel
theorem dX9_isWhole_35 : decode cX9_isWhole 35 = .ok (.iaload, 1) := by decide +kernel
theorem dX9_isWhole_36 : decode cX9_isWhole 36 = .ok (.aload_n 0, 1) := by decide +kernel
theorem dX9_isWhole_37 : decode cX9_isWhole 37 = .ok (.getfield 116, 3) := by decide +kernel
theorem dX9_isWhole_40 : decode cX9_isWhole 40 = .ok (.if_icmp .ge 7, 3) := by decide +kernel
theorem dX9_isWhole_43 : decode cX9_isWhole 43 = .ok (.iconst 1, 1) := by decide +kernel
theorem dX9_isWhole_44 : decode cX9_isWhole 44 = .ok (.goto 4, 3) := by decide +kernel
theorem dX9_isWhole_47 : decode cX9_isWhole 47 = .ok (.iconst 0, 1) := by decide +kernel
theorem dX9_isWhole_48 : decode cX9_isWhole 48 = .ok (.istore_n 1, 1) := by decide +kernel
theorem dX9_isWhole_49 : decode cX9_isWhole 49 = .ok (.iinc 3 1, 3) := by decide +kernel
theorem dX9_isWhole_52 : decode cX9_isWhole 52 = .ok (.goto (-38), 3) := by decide +kernel
theorem dX9_isWhole_55 : decode cX9_isWhole 55 = .ok (.iinc 2 1, 3) := by decide +kernel
theorem dX9_isWhole_58 : decode cX9_isWhole 58 = .ok (.goto (-54), 3) := by decide +kernel
theorem dX9_isWhole_61 : decode cX9_isWhole 61 = .ok (.iload_n 1, 1) := by decide +kernel
theorem dX9_isWhole_62 : decode cX9_isWhole 62 = .ok (.ireturn, 1) := by decide +kernel
theorem dX9_findTokens_0 : decode cX9_findTokens 0 = .ok (.aload_n 0, 1) := by decide +kernel
theorem dX9_findTokens_1 : decode cX9_findTokens 1 = .ok (.iconst 0, 1) := by decide +kernel
theorem dX9_findTokens_2 : decode cX9_findTokens 2 = .ok (.putfield 127, 3) := by decide +kernel
theorem dX9_findTokens_5 : decode cX9_findTokens 5 = .ok (.iconst 0, 1) := by decide +kernel
theorem dX9_findTokens_6 : decode cX9_findTokens 6 = .ok (.istore_n 1, 1) := by decide +kernel
theorem dX9_findTokens_7 : decode cX9_findTokens 7 = .ok (.iload_n 1, 1) := by decide +kernel
theorem dX9_findTokens_8 : decode cX9_findTokens 8 = .ok (.aload_n 0, 1) := by decide +kernel
theorem dX9_findTokens_9 : decode cX9_findTokens 9 = .ok (.getfield 116, 3) := by decide +kernel
theorem dX9_findTokens_12 : decode cX9_findTokens 12 = .ok (.if_icmp .ge 62, 3) := by decide +kernel
theorem dX9_findTokens_15 : decode cX9_findTokens 15 = .ok (.aload_n 0, 1) := by decide +kernel
theorem dX9_findTokens_16 : decode cX9_findTokens 16 = .ok (.getfield 39, 3) := by decide +kernel
theorem dX9_findTokens_19 : decode cX9_findTokens 19 = .ok (.aload_n 0, 1) := by decide +kernel
theorem dX9_findTokens_20 : decode cX9_findTokens 20 = .ok (.getfield 127, 3) := by decide +kernel
theorem dX9_findTokens_23 : decode cX9_findTokens 23 = .ok (.iload_n 1, 1) := by decide +kernel
theorem dX9_findTokens_24 : decode cX9_findTokens 24 = .ok (.iconst 1, 1) := by decide +kernel
theorem dX9_findTokens_25 : decode cX9_findTokens 25 = .ok (.iadd, 1) := by decide +kernel
theorem dX9_findTokens_26 : decode cX9_findTokens 26 = .ok (.iastore, 1) := by decide +kernel
theorem dX9_findTokens_27 : decode cX9_findTokens 27 = .ok (.aload_n 0, 1) := by decide +kernel
theorem dX9_findTokens_28 : decode cX9_findTokens 28 = .ok (.dup, 1) := by decide +kernel
theorem dX9_findTokens_29 : decode cX9_findTokens 29 = .ok (.getfield 127, 3) := by decide +kernel
theorem dX9_findTokens_32 : decode cX9_findTokens 32 = .ok (.iconst 1, 1) := by decide +kernel
theorem dX9_findTokens_33 : decode cX9_findTokens 33 = .ok (.iadd, 1) := by decide +kernel
theorem dX9_findTokens_34 : decode cX9_findTokens 34 = .ok (.putfield 127, 3) := by decide +kernel
theorem dX9_findTokens_37 : decode cX9_findTokens 37 = .ok (.aload_n 0, 1) := by decide +kernel
theorem dX9_findTokens_38 : decode cX9_findTokens 38 = .ok (.iload_n 1, 1) := by decide +kernel
theorem dX9_findTokens_39 : decode cX9_findTokens 39 = .ok (.invokevirtual 124, 3) := by decide +kernel
theorem dX9_findTokens_42 : decode cX9_findTokens 42 = .ok (.ifCond .eq 26, 3) := by decide +kernel
theorem dX9_findTokens_45 : decode cX9_findTokens 45 = .ok (.aload_n 0, 1) := by decide +kernel
theorem dX9_findTokens_46 : decode cX9_findTokens 46 = .ok (.getfield 39, 3) := by decide +kernel
theorem dX9_findTokens_49 : decode cX9_findTokens 49 = .ok (.aload_n 0, 1) := by decide +kernel
theorem dX9_findTokens_50 : decode cX9_findTokens 50 = .ok (.getfield 127, 3) := by decide +kernel
theorem dX9_findTokens_53 : decode cX9_findTokens 53 = .ok (.iload_n 1, 1) := by decide +kernel
theorem dX9_findTokens_54 : decode cX9_findTokens 54 = .ok (.ineg, 1) := by decide +kernel
theorem dX9_findTokens_55 : decode cX9_findTokens 55 = .ok (.iconst 1, 1) := by decide +kernel
theorem dX9_findTokens_56 : decode cX9_findTokens 56 = .ok (.isub, 1) := by decide +kernel
theorem dX9_findTokens_57 : decode cX9_findTokens 57 = .ok (.iastore, 1) := by decide +kernel
theorem dX9_findTokens_58 : decode cX9_findTokens 58 = .ok (.aload_n 0, 1) := by decide +kernel
theorem dX9_findTokens_59 : decode cX9_findTokens 59 = .ok (.dup, 1) := by decide +kernel
theorem dX9_findTokens_60 : decode cX9_findTokens 60 = .ok (.getfield 127, 3) := by decide +kernel
theorem dX9_findTokens_63 : decode cX9_findTokens 63 = .ok (.iconst 1, 1) := by decide +kernel
theorem dX9_findTokens_64 : decode cX9_findTokens 64 = .ok (.iadd, 1) := by decide +kernel
theorem dX9_findTokens_65 : decode cX9_findTokens 65 = .ok (.putfield 127, 3) := by decide +kernel
theorem dX9_findTokens_68 : decode cX9_findTokens 68 = .ok (.iinc 1 1, 3) := by decide +kernel
theorem dX9_findTokens_71 : decode cX9_findTokens 71 = .ok (.goto (-64), 3) := by decide +kernel
theorem dX9_findTokens_74 : decode cX9_findTokens 74 = .ok (.return_, 1) := by decide +kernel
theorem dX9_many_0 : decode cX9_many 0 = .ok (.aload_n 0, 1) := by decide +kernel
theorem dX9_many_1 : decode cX9_many 1 = .ok (.invokevirtual 130, 3) := by decide +kernel
theorem dX9_many_4 : decode cX9_many 4 = .ok (.iload_n 1, 1) := by decide +kernel
theorem dX9_many_5 : decode cX9_many 5 = .ok (.tableswitch 59 0 3 #[31, 36, 41, 54], 31) := by decide +kernel
theorem dX9_many_36 : decode cX9_many 36 = .ok (.aload_n 0, 1) := by decide +kernel
theorem dX9_many_37 : decode cX9_many 37 = .ok (.getfield 19, 3) := by decide +kernel
theorem dX9_many_40 : decode cX9_many 40 = .ok (.ireturn, 1) := by decide +kernel
theorem dX9_many_41 : decode cX9_many 41 = .ok (.aload_n 0, 1) := by decide +kernel
theorem dX9_many_42 : decode cX9_many 42 = .ok (.getfield 116, 3) := by decide +kernel
theorem dX9_many_45 : decode cX9_many 45 = .ok (.ireturn, 1) := by decide +kernel
theorem dX9_many_46 : decode cX9_many 46 = .ok (.aload_n 0, 1) := by decide +kernel
theorem dX9_many_47 : decode cX9_many 47 = .ok (.invokevirtual 133, 3) := by decide +kernel
theorem dX9_many_50 : decode cX9_many 50 = .ok (.ifCond .eq 7, 3) := by decide +kernel
theorem dX9_many_53 : decode cX9_many 53 = .ok (.iconst 1, 1) := by decide +kernel
theorem dX9_many_54 : decode cX9_many 54 = .ok (.goto 4, 3) := by decide +kernel
theorem dX9_many_57 : decode cX9_many 57 = .ok (.iconst 0, 1) := by decide +kernel
theorem dX9_many_58 : decode cX9_many 58 = .ok (.ireturn, 1) := by decide +kernel
theorem dX9_many_59 : decode cX9_many 59 = .ok (.aload_n 0, 1) := by decide +kernel
theorem dX9_many_60 : decode cX9_many 60 = .ok (.getfield 127, 3) := by decide +kernel
theorem dX9_many_63 : decode cX9_many 63 = .ok (.ireturn, 1) := by decide +kernel
theorem dX9_many_64 : decode cX9_many 64 = .ok (.iconst (-1), 1) := by decide +kernel
theorem dX9_many_65 : decode cX9_many 65 = .ok (.ireturn, 1) := by decide +kernel
theorem dX9_add_0 : decode cX9_add 0 = .ok (.aload_n 0, 1) := by decide +kernel
theorem dX9_add_1 : decode cX9_add 1 = .ok (.getfield 32, 3) := by decide +kernel
theorem dX9_add_4 : decode cX9_add 4 = .ok (.iload_n 1, 1) := by decide +kernel
theorem dX9_add_5 : decode cX9_add 5 = .ok (.iaload, 1) := by decide +kernel
theorem dX9_add_6 : decode cX9_add 6 = .ok (.istore_n 3, 1) := by decide +kernel
theorem dX9_add_7 : decode cX9_add 7 = .ok (.iload_n 3, 1) := by decide +kernel
theorem dX9_add_8 : decode cX9_add 8 = .ok (.ifCond .le 33, 3) := by decide +kernel
theorem dX9_add_11 : decode cX9_add 11 = .ok (.aload_n 0, 1) := by decide +kernel
theorem dX9_add_12 : decode cX9_add 12 = .ok (.getfield 29, 3) := by decide +kernel
theorem dX9_add_15 : decode cX9_add 15 = .ok (.bipush 34, 2) := by decide +kernel
theorem dX9_add_17 : decode cX9_add 17 = .ok (.iload_n 1, 1) := by decide +kernel
theorem dX9_add_18 : decode cX9_add 18 = .ok (.imul, 1) := by decide +kernel
theorem dX9_add_19 : decode cX9_add 19 = .ok (.iload_n 3, 1) := by decide +kernel
theorem dX9_add_20 : decode cX9_add 20 = .ok (.iadd, 1) := by decide +kernel
theorem dX9_add_21 : decode cX9_add 21 = .ok (.iconst 1, 1) := by decide +kernel
theorem dX9_add_22 : decode cX9_add 22 = .ok (.isub, 1) := by decide +kernel
theorem dX9_add_23 : decode cX9_add 23 = .ok (.iaload, 1) := by decide +kernel
theorem dX9_add_24 : decode cX9_add 24 = .ok (.iload_n 2, 1) := by decide +kernel
theorem dX9_add_25 : decode cX9_add 25 = .ok (.ineg, 1) := by decide +kernel
theorem dX9_add_26 : decode cX9_add 26 = .ok (.if_icmp .ne 15, 3) := by decide +kernel
theorem dX9_add_29 : decode cX9_add 29 = .ok (.aload_n 0, 1) := by decide +kernel
theorem dX9_add_30 : decode cX9_add 30 = .ok (.getfield 32, 3) := by decide +kernel
theorem dX9_add_33 : decode cX9_add 33 = .ok (.iload_n 1, 1) := by decide +kernel
theorem dX9_add_34 : decode cX9_add 34 = .ok (.iload_n 3, 1) := by decide +kernel
theorem dX9_add_35 : decode cX9_add 35 = .ok (.iconst 1, 1) := by decide +kernel
theorem dX9_add_36 : decode cX9_add 36 = .ok (.isub, 1) := by decide +kernel
theorem dX9_add_37 : decode cX9_add 37 = .ok (.iastore, 1) := by decide +kernel
theorem dX9_add_38 : decode cX9_add 38 = .ok (.goto 24, 3) := by decide +kernel
theorem dX9_add_41 : decode cX9_add 41 = .ok (.aload_n 0, 1) := by decide +kernel
theorem dX9_add_42 : decode cX9_add 42 = .ok (.getfield 29, 3) := by decide +kernel
theorem dX9_add_45 : decode cX9_add 45 = .ok (.bipush 34, 2) := by decide +kernel
theorem dX9_add_47 : decode cX9_add 47 = .ok (.iload_n 1, 1) := by decide +kernel
theorem dX9_add_48 : decode cX9_add 48 = .ok (.imul, 1) := by decide +kernel
theorem dX9_add_49 : decode cX9_add 49 = .ok (.iload_n 3, 1) := by decide +kernel
theorem dX9_add_50 : decode cX9_add 50 = .ok (.iadd, 1) := by decide +kernel
theorem dX9_add_51 : decode cX9_add 51 = .ok (.iload_n 2, 1) := by decide +kernel
theorem dX9_add_52 : decode cX9_add 52 = .ok (.iastore, 1) := by decide +kernel
theorem dX9_add_53 : decode cX9_add 53 = .ok (.aload_n 0, 1) := by decide +kernel
theorem dX9_add_54 : decode cX9_add 54 = .ok (.getfield 32, 3) := by decide +kernel
theorem dX9_add_57 : decode cX9_add 57 = .ok (.iload_n 1, 1) := by decide +kernel
theorem dX9_add_58 : decode cX9_add 58 = .ok (.iload_n 3, 1) := by decide +kernel
theorem dX9_add_59 : decode cX9_add 59 = .ok (.iconst 1, 1) := by decide +kernel
theorem dX9_add_60 : decode cX9_add 60 = .ok (.iadd, 1) := by decide +kernel
theorem dX9_add_61 : decode cX9_add 61 = .ok (.iastore, 1) := by decide +kernel
theorem dX9_add_62 : decode cX9_add 62 = .ok (.return_, 1) := by decide +kernel
theorem dX9_copy_0 : decode cX9_copy 0 = .ok (.aload_n 0, 1) := by decide +kernel
theorem dX9_copy_1 : decode cX9_copy 1 = .ok (.getfield 32, 3) := by decide +kernel
theorem dX9_copy_4 : decode cX9_copy 4 = .ok (.iload_n 1, 1) := by decide +kernel
theorem dX9_copy_5 : decode cX9_copy 5 = .ok (.aload_n 0, 1) := by decide +kernel
theorem dX9_copy_6 : decode cX9_copy 6 = .ok (.getfield 32, 3) := by decide +kernel
theorem dX9_copy_9 : decode cX9_copy 9 = .ok (.iload_n 2, 1) := by decide +kernel
theorem dX9_copy_10 : decode cX9_copy 10 = .ok (.iaload, 1) := by decide +kernel
theorem dX9_copy_11 : decode cX9_copy 11 = .ok (.iastore, 1) := by decide +kernel
theorem dX9_copy_12 : decode cX9_copy 12 = .ok (.iconst 0, 1) := by decide +kernel
theorem dX9_copy_13 : decode cX9_copy 13 = .ok (.istore_n 3, 1) := by decide +kernel
theorem dX9_copy_14 : decode cX9_copy 14 = .ok (.iload_n 3, 1) := by decide +kernel
theorem dX9_copy_15 : decode cX9_copy 15 = .ok (.aload_n 0, 1) := by decide +kernel
theorem dX9_copy_16 : decode cX9_copy 16 = .ok (.getfield 32, 3) := by decide +kernel
theorem dX9_copy_19 : decode cX9_copy 19 = .ok (.iload_n 2, 1) := by decide +kernel
theorem dX9_copy_20 : decode cX9_copy 20 = .ok (.iaload, 1) := by decide +kernel
theorem dX9_copy_21 : decode cX9_copy 21 = .ok (.if_icmp .ge 31, 3) := by decide +kernel
theorem dX9_copy_24 : decode cX9_copy 24 = .ok (.aload_n 0, 1) := by decide +kernel
theorem dX9_copy_25 : decode cX9_copy 25 = .ok (.getfield 29, 3) := by decide +kernel
theorem dX9_copy_28 : decode cX9_copy 28 = .ok (.bipush 34, 2) := by decide +kernel
theorem dX9_copy_30 : decode cX9_copy 30 = .ok (.iload_n 1, 1) := by decide +kernel
theorem dX9_copy_31 : decode cX9_copy 31 = .ok (.imul, 1) := by decide +kernel
theorem dX9_copy_32 : decode cX9_copy 32 = .ok (.iload_n 3, 1) := by decide +kernel
theorem dX9_copy_33 : decode cX9_copy 33 = .ok (.iadd, 1) := by decide +kernel
theorem dX9_copy_34 : decode cX9_copy 34 = .ok (.aload_n 0, 1) := by decide +kernel
theorem dX9_copy_35 : decode cX9_copy 35 = .ok (.getfield 29, 3) := by decide +kernel
theorem dX9_copy_38 : decode cX9_copy 38 = .ok (.bipush 34, 2) := by decide +kernel
theorem dX9_copy_40 : decode cX9_copy 40 = .ok (.iload_n 2, 1) := by decide +kernel
theorem dX9_copy_41 : decode cX9_copy 41 = .ok (.imul, 1) := by decide +kernel
theorem dX9_copy_42 : decode cX9_copy 42 = .ok (.iload_n 3, 1) := by decide +kernel
theorem dX9_copy_43 : decode cX9_copy 43 = .ok (.iadd, 1) := by decide +kernel
theorem dX9_copy_44 : decode cX9_copy 44 = .ok (.iaload, 1) := by decide +kernel
theorem dX9_copy_45 : decode cX9_copy 45 = .ok (.iastore, 1) := by decide +kernel
theorem dX9_copy_46 : decode cX9_copy 46 = .ok (.iinc 3 1, 3) := by decide +kernel
theorem dX9_copy_49 : decode cX9_copy 49 = .ok (.goto (-35), 3) := by decide +kernel
theorem dX9_copy_52 : decode cX9_copy 52 = .ok (.return_, 1) := by decide +kernel
theorem dX9_put_0 : decode cX9_put 0 = .ok (.aload_n 0, 1) := by decide +kernel
theorem dX9_put_1 : decode cX9_put 1 = .ok (.getfield 42, 3) := by decide +kernel
theorem dX9_put_4 : decode cX9_put 4 = .ok (.iconst 0, 1) := by decide +kernel
theorem dX9_put_5 : decode cX9_put 5 = .ok (.iload_n 2, 1) := by decide +kernel
theorem dX9_put_6 : decode cX9_put 6 = .ok (.iastore, 1) := by decide +kernel
theorem dX9_put_7 : decode cX9_put 7 = .ok (.aload_n 0, 1) := by decide +kernel
theorem dX9_put_8 : decode cX9_put 8 = .ok (.getfield 42, 3) := by decide +kernel
theorem dX9_put_11 : decode cX9_put 11 = .ok (.iconst 1, 1) := by decide +kernel
theorem dX9_put_12 : decode cX9_put 12 = .ok (.iload_n 3, 1) := by decide +kernel
theorem dX9_put_13 : decode cX9_put 13 = .ok (.iastore, 1) := by decide +kernel
theorem dX9_put_14 : decode cX9_put 14 = .ok (.aload_n 0, 1) := by decide +kernel
theorem dX9_put_15 : decode cX9_put 15 = .ok (.getfield 42, 3) := by decide +kernel
theorem dX9_put_18 : decode cX9_put 18 = .ok (.iconst 2, 1) := by decide +kernel
theorem dX9_put_19 : decode cX9_put 19 = .ok (.iload 4, 2) := by decide +kernel
theorem dX9_put_21 : decode cX9_put 21 = .ok (.iastore, 1) := by decide +kernel
theorem dX9_put_22 : decode cX9_put 22 = .ok (.aload_n 0, 1) := by decide +kernel
theorem dX9_put_23 : decode cX9_put 23 = .ok (.getfield 42, 3) := by decide +kernel
theorem dX9_put_26 : decode cX9_put 26 = .ok (.iconst 3, 1) := by decide +kernel
theorem dX9_put_27 : decode cX9_put 27 = .ok (.iload 5, 2) := by decide +kernel
theorem dX9_put_29 : decode cX9_put 29 = .ok (.iastore, 1) := by decide +kernel
theorem dX9_put_30 : decode cX9_put 30 = .ok (.iconst 0, 1) := by decide +kernel
theorem dX9_put_31 : decode cX9_put 31 = .ok (.istore 6, 2) := by decide +kernel
theorem dX9_put_33 : decode cX9_put 33 = .ok (.iload_n 1, 1) := by decide +kernel
theorem dX9_put_34 : decode cX9_put 34 = .ok (.invokestatic 137, 3) := by decide +kernel
theorem dX9_put_37 : decode cX9_put 37 = .ok (.istore 7, 2) := by decide +kernel
theorem dX9_put_39 : decode cX9_put 39 = .ok (.iload 6, 2) := by decide +kernel
theorem dX9_put_41 : decode cX9_put 41 = .ok (.iconst 4, 1) := by decide +kernel
theorem dX9_put_42 : decode cX9_put 42 = .ok (.if_icmp .ge 56, 3) := by decide +kernel
theorem dX9_put_45 : decode cX9_put 45 = .ok (.aload_n 0, 1) := by decide +kernel
theorem dX9_put_46 : decode cX9_put 46 = .ok (.getfield 42, 3) := by decide +kernel
theorem dX9_put_49 : decode cX9_put 49 = .ok (.iload 6, 2) := by decide +kernel
theorem dX9_put_51 : decode cX9_put 51 = .ok (.iaload, 1) := by decide +kernel
theorem dX9_put_52 : decode cX9_put 52 = .ok (.ifCond .eq 46, 3) := by decide +kernel
theorem dX9_put_55 : decode cX9_put 55 = .ok (.iload 7, 2) := by decide +kernel
theorem dX9_put_57 : decode cX9_put 57 = .ok (.ifCond .eq 32, 3) := by decide +kernel
theorem dX9_put_60 : decode cX9_put 60 = .ok (.aload_n 0, 1) := by decide +kernel
theorem dX9_put_61 : decode cX9_put 61 = .ok (.getfield 42, 3) := by decide +kernel
theorem dX9_put_64 : decode cX9_put 64 = .ok (.iload 6, 2) := by decide +kernel
theorem dX9_put_66 : decode cX9_put 66 = .ok (.iaload, 1) := by decide +kernel
theorem dX9_put_67 : decode cX9_put 67 = .ok (.i2l, 1) := by decide +kernel
theorem dX9_put_68 : decode cX9_put 68 = .ok (.aload_n 0, 1) := by decide +kernel
theorem dX9_put_69 : decode cX9_put 69 = .ok (.getfield 116, 3) := by decide +kernel
theorem dX9_put_72 : decode cX9_put 72 = .ok (.ineg, 1) := by decide +kernel
theorem dX9_put_73 : decode cX9_put 73 = .ok (.i2l, 1) := by decide +kernel
theorem dX9_put_74 : decode cX9_put 74 = .ok (.aload_n 0, 1) := by decide +kernel
theorem dX9_put_75 : decode cX9_put 75 = .ok (.getfield 116, 3) := by decide +kernel
theorem dX9_put_78 : decode cX9_put 78 = .ok (.i2l, 1) := by decide +kernel
theorem dX9_put_79 : decode cX9_put 79 = .ok (.invokestatic 99, 3) := by decide +kernel
theorem dX9_put_82 : decode cX9_put 82 = .ok (.ifCond .eq 7, 3) := by decide +kernel
theorem dX9_put_85 : decode cX9_put 85 = .ok (.iconst 1, 1) := by decide +kernel
theorem dX9_put_86 : decode cX9_put 86 = .ok (.goto 4, 3) := by decide +kernel
theorem dX9_put_89 : decode cX9_put 89 = .ok (.iconst 0, 1) := by decide +kernel
theorem dX9_put_90 : decode cX9_put 90 = .ok (.istore 7, 2) := by decide +kernel
theorem dX9_put_92 : decode cX9_put 92 = .ok (.iinc 6 1, 3) := by decide +kernel
theorem dX9_put_95 : decode cX9_put 95 = .ok (.goto (-56), 3) := by decide +kernel
theorem dX9_put_98 : decode cX9_put 98 = .ok (.iload 7, 2) := by decide +kernel
theorem dX9_put_100 : decode cX9_put 100 = .ok (.ifCond .ne 5, 3) := by decide +kernel
theorem dX9_put_103 : decode cX9_put 103 = .ok (.iconst (-1), 1) := by decide +kernel
theorem dX9_put_104 : decode cX9_put 104 = .ok (.ireturn, 1) := by decide +kernel
theorem dX9_put_105 : decode cX9_put 105 = .ok (.iconst 0, 1) := by decide +kernel
theorem dX9_put_106 : decode cX9_put 106 = .ok (.istore 8, 2) := by decide +kernel
theorem dX9_put_108 : decode cX9_put 108 = .ok (.iload 8, 2) := by decide +kernel
theorem dX9_put_110 : decode cX9_put 110 = .ok (.iload 6, 2) := by decide +kernel
theorem dX9_put_112 : decode cX9_put 112 = .ok (.if_icmp .ge 39, 3) := by decide +kernel
theorem dX9_put_115 : decode cX9_put 115 = .ok (.aload_n 0, 1) := by decide +kernel
theorem dX9_put_116 : decode cX9_put 116 = .ok (.getfield 42, 3) := by decide +kernel
theorem dX9_put_119 : decode cX9_put 119 = .ok (.iload 8, 2) := by decide +kernel
theorem dX9_put_121 : decode cX9_put 121 = .ok (.iaload, 1) := by decide +kernel
theorem dX9_put_122 : decode cX9_put 122 = .ok (.ifCond .ge 23, 3) := by decide +kernel
theorem dX9_put_125 : decode cX9_put 125 = .ok (.aload_n 0, 1) := by decide +kernel
theorem dX9_put_126 : decode cX9_put 126 = .ok (.aload_n 0, 1) := by decide +kernel
theorem dX9_put_127 : decode cX9_put 127 = .ok (.getfield 42, 3) := by decide +kernel
theorem dX9_put_130 : decode cX9_put 130 = .ok (.iload 8, 2) := by decide +kernel
theorem dX9_put_132 : decode cX9_put 132 = .ok (.iaload, 1) := by decide +kernel
theorem dX9_put_133 : decode cX9_put 133 = .ok (.ineg, 1) := by decide +kernel
theorem dX9_put_134 : decode cX9_put 134 = .ok (.iconst 1, 1) := by decide +kernel
theorem dX9_put_135 : decode cX9_put 135 = .ok (.isub, 1) := by decide +kernel
theorem dX9_put_136 : decode cX9_put 136 = .ok (.invokevirtual 124, 3) := by decide +kernel
theorem dX9_put_139 : decode cX9_put 139 = .ok (.ifCond .ne 6, 3) := by decide +kernel
theorem dX9_put_142 : decode cX9_put 142 = .ok (.bipush (-6), 2) := by decide +kernel
theorem dX9_put_144 : decode cX9_put 144 = .ok (.ireturn, 1) := by decide +kernel
theorem dX9_put_145 : decode cX9_put 145 = .ok (.iinc 8 1, 3) := by decide +kernel
theorem dX9_put_148 : decode cX9_put 148 = .ok (.goto (-40), 3) := by decide +kernel
theorem dX9_put_151 : decode cX9_put 151 = .ok (.aload_n 0, 1) := by decide +kernel
theorem dX9_put_152 : decode cX9_put 152 = .ok (.bipush 8, 2) := by decide +kernel
theorem dX9_put_154 : decode cX9_put 154 = .ok (.iload_n 1, 1) := by decide +kernel
theorem dX9_put_155 : decode cX9_put 155 = .ok (.invokevirtual 140, 3) := by decide +kernel
theorem dX9_put_158 : decode cX9_put 158 = .ok (.iconst 0, 1) := by decide +kernel
theorem dX9_put_159 : decode cX9_put 159 = .ok (.istore 8, 2) := by decide +kernel
theorem dX9_put_161 : decode cX9_put 161 = .ok (.iload 8, 2) := by decide +kernel
theorem dX9_put_163 : decode cX9_put 163 = .ok (.iload 6, 2) := by decide +kernel
theorem dX9_put_165 : decode cX9_put 165 = .ok (.if_icmp .ge 22, 3) := by decide +kernel
theorem dX9_put_168 : decode cX9_put 168 = .ok (.aload_n 0, 1) := by decide +kernel
theorem dX9_put_169 : decode cX9_put 169 = .ok (.bipush 8, 2) := by decide +kernel
theorem dX9_put_171 : decode cX9_put 171 = .ok (.aload_n 0, 1) := by decide +kernel
theorem dX9_put_172 : decode cX9_put 172 = .ok (.getfield 42, 3) := by decide +kernel
theorem dX9_put_175 : decode cX9_put 175 = .ok (.iload 8, 2) := by decide +kernel
theorem dX9_put_177 : decode cX9_put 177 = .ok (.iaload, 1) := by decide +kernel
theorem dX9_put_178 : decode cX9_put 178 = .ok (.invokevirtual 144, 3) := by decide +kernel
theorem dX9_put_181 : decode cX9_put 181 = .ok (.iinc 8 1, 3) := by decide +kernel
theorem dX9_put_184 : decode cX9_put 184 = .ok (.goto (-23), 3) := by decide +kernel
theorem dX9_put_187 : decode cX9_put 187 = .ok (.aload_n 0, 1) := by decide +kernel
theorem dX9_put_188 : decode cX9_put 188 = .ok (.getfield 32, 3) := by decide +kernel
theorem dX9_put_191 : decode cX9_put 191 = .ok (.bipush 8, 2) := by decide +kernel
theorem dX9_put_193 : decode cX9_put 193 = .ok (.iaload, 1) := by decide +kernel
theorem dX9_put_194 : decode cX9_put 194 = .ok (.bipush 16, 2) := by decide +kernel
theorem dX9_put_196 : decode cX9_put 196 = .ok (.if_icmp .le 6, 3) := by decide +kernel
theorem dX9_put_199 : decode cX9_put 199 = .ok (.bipush (-2), 2) := by decide +kernel
theorem dX9_put_201 : decode cX9_put 201 = .ok (.ireturn, 1) := by decide +kernel
theorem dX9_put_202 : decode cX9_put 202 = .ok (.aload_n 0, 1) := by decide +kernel
theorem dX9_put_203 : decode cX9_put 203 = .ok (.iload_n 1, 1) := by decide +kernel
theorem dX9_put_204 : decode cX9_put 204 = .ok (.bipush 8, 2) := by decide +kernel
theorem dX9_put_206 : decode cX9_put 206 = .ok (.invokevirtual 140, 3) := by decide +kernel
theorem dX9_put_209 : decode cX9_put 209 = .ok (.aload_n 0, 1) := by decide +kernel
theorem dX9_put_210 : decode cX9_put 210 = .ok (.getfield 32, 3) := by decide +kernel
theorem dX9_put_213 : decode cX9_put 213 = .ok (.iload_n 1, 1) := by decide +kernel
theorem dX9_put_214 : decode cX9_put 214 = .ok (.iaload, 1) := by decide +kernel
theorem dX9_put_215 : decode cX9_put 215 = .ok (.ireturn, 1) := by decide +kernel
theorem dX9_wipe_0 : decode cX9_wipe 0 = .ok (.iload_n 1, 1) := by decide +kernel
theorem dX9_wipe_1 : decode cX9_wipe 1 = .ok (.invokestatic 137, 3) := by decide +kernel
theorem dX9_wipe_4 : decode cX9_wipe 4 = .ok (.ifCond .ne 5, 3) := by decide +kernel
theorem dX9_wipe_7 : decode cX9_wipe 7 = .ok (.iconst (-1), 1) := by decide +kernel
theorem dX9_wipe_8 : decode cX9_wipe 8 = .ok (.ireturn, 1) := by decide +kernel
theorem dX9_wipe_9 : decode cX9_wipe 9 = .ok (.aload_n 0, 1) := by decide +kernel
theorem dX9_wipe_10 : decode cX9_wipe 10 = .ok (.getfield 32, 3) := by decide +kernel
theorem dX9_wipe_13 : decode cX9_wipe 13 = .ok (.iload_n 1, 1) := by decide +kernel
theorem dX9_wipe_14 : decode cX9_wipe 14 = .ok (.iaload, 1) := by decide +kernel
theorem dX9_wipe_15 : decode cX9_wipe 15 = .ok (.istore_n 2, 1) := by decide +kernel
theorem dX9_wipe_16 : decode cX9_wipe 16 = .ok (.aload_n 0, 1) := by decide +kernel
theorem dX9_wipe_17 : decode cX9_wipe 17 = .ok (.getfield 32, 3) := by decide +kernel
theorem dX9_wipe_20 : decode cX9_wipe 20 = .ok (.iload_n 1, 1) := by decide +kernel
theorem dX9_wipe_21 : decode cX9_wipe 21 = .ok (.iconst 0, 1) := by decide +kernel
theorem dX9_wipe_22 : decode cX9_wipe 22 = .ok (.iastore, 1) := by decide +kernel
theorem dX9_wipe_23 : decode cX9_wipe 23 = .ok (.iload_n 2, 1) := by decide +kernel
theorem dX9_wipe_24 : decode cX9_wipe 24 = .ok (.ireturn, 1) := by decide +kernel
theorem dX9_size_0 : decode cX9_size 0 = .ok (.iload_n 1, 1) := by decide +kernel
theorem dX9_size_1 : decode cX9_size 1 = .ok (.invokestatic 137, 3) := by decide +kernel
theorem dX9_size_4 : decode cX9_size 4 = .ok (.ifCond .eq 12, 3) := by decide +kernel
theorem dX9_size_7 : decode cX9_size 7 = .ok (.aload_n 0, 1) := by decide +kernel
theorem dX9_size_8 : decode cX9_size 8 = .ok (.getfield 32, 3) := by decide +kernel
theorem dX9_size_11 : decode cX9_size 11 = .ok (.iload_n 1, 1) := by decide +kernel
theorem dX9_size_12 : decode cX9_size 12 = .ok (.iaload, 1) := by decide +kernel
theorem dX9_size_13 : decode cX9_size 13 = .ok (.goto 4, 3) := by decide +kernel
theorem dX9_size_16 : decode cX9_size 16 = .ok (.iconst (-1), 1) := by decide +kernel
theorem dX9_size_17 : decode cX9_size 17 = .ok (.ireturn, 1) := by decide +kernel
theorem dX9_token_0 : decode cX9_token 0 = .ok (.iload_n 1, 1) := by decide +kernel
theorem dX9_token_1 : decode cX9_token 1 = .ok (.invokestatic 137, 3) := by decide +kernel
theorem dX9_token_4 : decode cX9_token 4 = .ok (.ifCond .eq 35, 3) := by decide +kernel
theorem dX9_token_7 : decode cX9_token 7 = .ok (.iload_n 2, 1) := by decide +kernel
theorem dX9_token_8 : decode cX9_token 8 = .ok (.i2l, 1) := by decide +kernel
theorem dX9_token_9 : decode cX9_token 9 = .ok (.lconst 0, 1) := by decide +kernel
theorem dX9_token_10 : decode cX9_token 10 = .ok (.aload_n 0, 1) := by decide +kernel
theorem dX9_token_11 : decode cX9_token 11 = .ok (.getfield 32, 3) := by decide +kernel
theorem dX9_token_14 : decode cX9_token 14 = .ok (.iload_n 1, 1) := by decide +kernel
theorem dX9_token_15 : decode cX9_token 15 = .ok (.iaload, 1) := by decide +kernel
theorem dX9_token_16 : decode cX9_token 16 = .ok (.iconst 1, 1) := by decide +kernel
theorem dX9_token_17 : decode cX9_token 17 = .ok (.isub, 1) := by decide +kernel
theorem dX9_token_18 : decode cX9_token 18 = .ok (.i2l, 1) := by decide +kernel
theorem dX9_token_19 : decode cX9_token 19 = .ok (.invokestatic 99, 3) := by decide +kernel
theorem dX9_token_22 : decode cX9_token 22 = .ok (.ifCond .eq 17, 3) := by decide +kernel
theorem dX9_token_25 : decode cX9_token 25 = .ok (.aload_n 0, 1) := by decide +kernel
theorem dX9_token_26 : decode cX9_token 26 = .ok (.getfield 29, 3) := by decide +kernel
theorem dX9_token_29 : decode cX9_token 29 = .ok (.bipush 34, 2) := by decide +kernel
theorem dX9_token_31 : decode cX9_token 31 = .ok (.iload_n 1, 1) := by decide +kernel
theorem dX9_token_32 : decode cX9_token 32 = .ok (.imul, 1) := by decide +kernel
theorem dX9_token_33 : decode cX9_token 33 = .ok (.iload_n 2, 1) := by decide +kernel
theorem dX9_token_34 : decode cX9_token 34 = .ok (.iadd, 1) := by decide +kernel
theorem dX9_token_35 : decode cX9_token 35 = .ok (.iaload, 1) := by decide +kernel
theorem dX9_token_36 : decode cX9_token 36 = .ok (.goto 4, 3) := by decide +kernel
theorem dX9_token_39 : decode cX9_token 39 = .ok (.iconst 0, 1) := by decide +kernel
theorem dX9_token_40 : decode cX9_token 40 = .ok (.ireturn, 1) := by decide +kernel
theorem dX9_times_0 : decode cX9_times 0 = .ok (.iload_n 1, 1) := by decide +kernel
theorem dX9_times_1 : decode cX9_times 1 = .ok (.invokestatic 137, 3) := by decide +kernel
theorem dX9_times_4 : decode cX9_times 4 = .ok (.ifCond .eq 17, 3) := by decide +kernel
theorem dX9_times_7 : decode cX9_times 7 = .ok (.iload_n 2, 1) := by decide +kernel
theorem dX9_times_8 : decode cX9_times 8 = .ok (.invokestatic 137, 3) := by decide +kernel
theorem dX9_times_11 : decode cX9_times 11 = .ok (.ifCond .eq 10, 3) := by decide +kernel
theorem dX9_times_14 : decode cX9_times 14 = .ok (.iload_n 3, 1) := by decide +kernel
theorem dX9_times_15 : decode cX9_times 15 = .ok (.invokestatic 137, 3) := by decide +kernel
theorem dX9_times_18 : decode cX9_times 18 = .ok (.ifCond .ne 5, 3) := by decide +kernel
theorem dX9_times_21 : decode cX9_times 21 = .ok (.iconst (-1), 1) := by decide +kernel
theorem dX9_times_22 : decode cX9_times 22 = .ok (.ireturn, 1) := by decide +kernel
theorem dX9_times_23 : decode cX9_times 23 = .ok (.aload_n 0, 1) := by decide +kernel
theorem dX9_times_24 : decode cX9_times 24 = .ok (.bipush 8, 2) := by decide +kernel
theorem dX9_times_26 : decode cX9_times 26 = .ok (.iload_n 1, 1) := by decide +kernel
theorem dX9_times_27 : decode cX9_times 27 = .ok (.invokevirtual 140, 3) := by decide +kernel
theorem dX9_times_30 : decode cX9_times 30 = .ok (.iconst 0, 1) := by decide +kernel
theorem dX9_times_31 : decode cX9_times 31 = .ok (.istore 4, 2) := by decide +kernel
theorem dX9_times_33 : decode cX9_times 33 = .ok (.iload 4, 2) := by decide +kernel
theorem dX9_times_35 : decode cX9_times 35 = .ok (.aload_n 0, 1) := by decide +kernel
theorem dX9_times_36 : decode cX9_times 36 = .ok (.getfield 32, 3) := by decide +kernel
theorem dX9_times_39 : decode cX9_times 39 = .ok (.iload_n 2, 1) := by decide +kernel
theorem dX9_times_40 : decode cX9_times 40 = .ok (.iaload, 1) := by decide +kernel
theorem dX9_times_41 : decode cX9_times 41 = .ok (.if_icmp .ge 27, 3) := by decide +kernel
theorem dX9_times_44 : decode cX9_times 44 = .ok (.aload_n 0, 1) := by decide +kernel
theorem dX9_times_45 : decode cX9_times 45 = .ok (.bipush 8, 2) := by decide +kernel
theorem dX9_times_47 : decode cX9_times 47 = .ok (.aload_n 0, 1) := by decide +kernel
theorem dX9_times_48 : decode cX9_times 48 = .ok (.getfield 29, 3) := by decide +kernel
theorem dX9_times_51 : decode cX9_times 51 = .ok (.bipush 34, 2) := by decide +kernel
theorem dX9_times_53 : decode cX9_times 53 = .ok (.iload_n 2, 1) := by decide +kernel
theorem dX9_times_54 : decode cX9_times 54 = .ok (.imul, 1) := by decide +kernel
theorem dX9_times_55 : decode cX9_times 55 = .ok (.iload 4, 2) := by decide +kernel
theorem dX9_times_57 : decode cX9_times 57 = .ok (.iadd, 1) := by decide +kernel
theorem dX9_times_58 : decode cX9_times 58 = .ok (.iaload, 1) := by decide +kernel
theorem dX9_times_59 : decode cX9_times 59 = .ok (.invokevirtual 144, 3) := by decide +kernel
theorem dX9_times_62 : decode cX9_times 62 = .ok (.iinc 4 1, 3) := by decide +kernel
theorem dX9_times_65 : decode cX9_times 65 = .ok (.goto (-32), 3) := by decide +kernel
theorem dX9_times_68 : decode cX9_times 68 = .ok (.aload_n 0, 1) := by decide +kernel
theorem dX9_times_69 : decode cX9_times 69 = .ok (.getfield 32, 3) := by decide +kernel
theorem dX9_times_72 : decode cX9_times 72 = .ok (.bipush 8, 2) := by decide +kernel
theorem dX9_times_74 : decode cX9_times 74 = .ok (.iaload, 1) := by decide +kernel
theorem dX9_times_75 : decode cX9_times 75 = .ok (.bipush 16, 2) := by decide +kernel
theorem dX9_times_77 : decode cX9_times 77 = .ok (.if_icmp .le 6, 3) := by decide +kernel
theorem dX9_times_80 : decode cX9_times 80 = .ok (.bipush (-2), 2) := by decide +kernel
theorem dX9_times_82 : decode cX9_times 82 = .ok (.ireturn, 1) := by decide +kernel
theorem dX9_times_83 : decode cX9_times 83 = .ok (.aload_n 0, 1) := by decide +kernel
theorem dX9_times_84 : decode cX9_times 84 = .ok (.iload_n 3, 1) := by decide +kernel
theorem dX9_times_85 : decode cX9_times 85 = .ok (.bipush 8, 2) := by decide +kernel
theorem dX9_times_87 : decode cX9_times 87 = .ok (.invokevirtual 140, 3) := by decide +kernel
theorem dX9_times_90 : decode cX9_times 90 = .ok (.aload_n 0, 1) := by decide +kernel
theorem dX9_times_91 : decode cX9_times 91 = .ok (.getfield 32, 3) := by decide +kernel
theorem dX9_times_94 : decode cX9_times 94 = .ok (.iload_n 3, 1) := by decide +kernel
theorem dX9_times_95 : decode cX9_times 95 = .ok (.iaload, 1) := by decide +kernel
theorem dX9_times_96 : decode cX9_times 96 = .ok (.ireturn, 1) := by decide +kernel
theorem dX9_turn_0 : decode cX9_turn 0 = .ok (.iload_n 1, 1) := by decide +kernel
theorem dX9_turn_1 : decode cX9_turn 1 = .ok (.invokestatic 137, 3) := by decide +kernel
theorem dX9_turn_4 : decode cX9_turn 4 = .ok (.ifCond .eq 10, 3) := by decide +kernel
theorem dX9_turn_7 : decode cX9_turn 7 = .ok (.iload_n 2, 1) := by decide +kernel
theorem dX9_turn_8 : decode cX9_turn 8 = .ok (.invokestatic 137, 3) := by decide +kernel
theorem dX9_turn_11 : decode cX9_turn 11 = .ok (.ifCond .ne 5, 3) := by decide +kernel
theorem dX9_turn_14 : decode cX9_turn 14 = .ok (.iconst (-1), 1) := by decide +kernel
theorem dX9_turn_15 : decode cX9_turn 15 = .ok (.ireturn, 1) := by decide +kernel
theorem dX9_turn_16 : decode cX9_turn 16 = .ok (.aload_n 0, 1) := by decide +kernel
theorem dX9_turn_17 : decode cX9_turn 17 = .ok (.getfield 32, 3) := by decide +kernel
theorem dX9_turn_20 : decode cX9_turn 20 = .ok (.bipush 8, 2) := by decide +kernel
theorem dX9_turn_22 : decode cX9_turn 22 = .ok (.iconst 0, 1) := by decide +kernel
theorem dX9_turn_23 : decode cX9_turn 23 = .ok (.iastore, 1) := by decide +kernel
theorem dX9_turn_24 : decode cX9_turn 24 = .ok (.aload_n 0, 1) := by decide +kernel
theorem dX9_turn_25 : decode cX9_turn 25 = .ok (.getfield 32, 3) := by decide +kernel
theorem dX9_turn_28 : decode cX9_turn 28 = .ok (.iload_n 1, 1) := by decide +kernel
theorem dX9_turn_29 : decode cX9_turn 29 = .ok (.iaload, 1) := by decide +kernel
theorem dX9_turn_30 : decode cX9_turn 30 = .ok (.iconst 1, 1) := by decide +kernel
theorem dX9_turn_31 : decode cX9_turn 31 = .ok (.isub, 1) := by decide +kernel
theorem dX9_turn_32 : decode cX9_turn 32 = .ok (.istore_n 3, 1) := by decide +kernel
theorem dX9_turn_33 : decode cX9_turn 33 = .ok (.iload_n 3, 1) := by decide +kernel
theorem dX9_turn_34 : decode cX9_turn 34 = .ok (.ifCond .lt 58, 3) := by decide +kernel
theorem dX9_turn_37 : decode cX9_turn 37 = .ok (.aload_n 0, 1) := by decide +kernel
theorem dX9_turn_38 : decode cX9_turn 38 = .ok (.getfield 29, 3) := by decide +kernel
theorem dX9_turn_41 : decode cX9_turn 41 = .ok (.bipush 34, 2) := by decide +kernel
theorem dX9_turn_43 : decode cX9_turn 43 = .ok (.iload_n 1, 1) := by decide +kernel
theorem dX9_turn_44 : decode cX9_turn 44 = .ok (.imul, 1) := by decide +kernel
theorem dX9_turn_45 : decode cX9_turn 45 = .ok (.iload_n 3, 1) := by decide +kernel
theorem dX9_turn_46 : decode cX9_turn 46 = .ok (.iadd, 1) := by decide +kernel
theorem dX9_turn_47 : decode cX9_turn 47 = .ok (.iaload, 1) := by decide +kernel
theorem dX9_turn_48 : decode cX9_turn 48 = .ok (.istore 4, 2) := by decide +kernel
theorem dX9_turn_50 : decode cX9_turn 50 = .ok (.aload_n 0, 1) := by decide +kernel
theorem dX9_turn_51 : decode cX9_turn 51 = .ok (.iload 4, 2) := by decide +kernel
theorem dX9_turn_53 : decode cX9_turn 53 = .ok (.ifCond .ge 11, 3) := by decide +kernel
theorem dX9_turn_56 : decode cX9_turn 56 = .ok (.iload 4, 2) := by decide +kernel
theorem dX9_turn_58 : decode cX9_turn 58 = .ok (.ineg, 1) := by decide +kernel
theorem dX9_turn_59 : decode cX9_turn 59 = .ok (.iconst 1, 1) := by decide +kernel
theorem dX9_turn_60 : decode cX9_turn 60 = .ok (.isub, 1) := by decide +kernel
theorem dX9_turn_61 : decode cX9_turn 61 = .ok (.goto 7, 3) := by decide +kernel
theorem dX9_turn_64 : decode cX9_turn 64 = .ok (.iload 4, 2) := by decide +kernel
theorem dX9_turn_66 : decode cX9_turn 66 = .ok (.iconst 1, 1) := by decide +kernel
theorem dX9_turn_67 : decode cX9_turn 67 = .ok (.isub, 1) := by decide +kernel
theorem dX9_turn_68 : decode cX9_turn 68 = .ok (.invokevirtual 124, 3) := by decide +kernel
theorem dX9_turn_71 : decode cX9_turn 71 = .ok (.ifCond .ne 6, 3) := by decide +kernel
theorem dX9_turn_74 : decode cX9_turn 74 = .ok (.bipush (-6), 2) := by decide +kernel
theorem dX9_turn_76 : decode cX9_turn 76 = .ok (.ireturn, 1) := by decide +kernel
theorem dX9_turn_77 : decode cX9_turn 77 = .ok (.aload_n 0, 1) := by decide +kernel
theorem dX9_turn_78 : decode cX9_turn 78 = .ok (.bipush 8, 2) := by decide +kernel
theorem dX9_turn_80 : decode cX9_turn 80 = .ok (.iload 4, 2) := by decide +kernel
theorem dX9_turn_82 : decode cX9_turn 82 = .ok (.ineg, 1) := by decide +kernel
theorem dX9_turn_83 : decode cX9_turn 83 = .ok (.invokevirtual 144, 3) := by decide +kernel
theorem dX9_turn_86 : decode cX9_turn 86 = .ok (.iinc 3 (-1), 3) := by decide +kernel
theorem dX9_turn_89 : decode cX9_turn 89 = .ok (.goto (-56), 3) := by decide +kernel
theorem dX9_turn_92 : decode cX9_turn 92 = .ok (.aload_n 0, 1) := by decide +kernel
theorem dX9_turn_93 : decode cX9_turn 93 = .ok (.iload_n 2, 1) := by decide +kernel
theorem dX9_turn_94 : decode cX9_turn 94 = .ok (.bipush 8, 2) := by decide +kernel
theorem dX9_turn_96 : decode cX9_turn 96 = .ok (.invokevirtual 140, 3) := by decide +kernel
theorem dX9_turn_99 : decode cX9_turn 99 = .ok (.aload_n 0, 1) := by decide +kernel
theorem dX9_turn_100 : decode cX9_turn 100 = .ok (.getfield 32, 3) := by decide +kernel
theorem dX9_turn_103 : decode cX9_turn 103 = .ok (.iload_n 2, 1) := by decide +kernel
theorem dX9_turn_104 : decode cX9_turn 104 = .ok (.iaload, 1) := by decide +kernel
theorem dX9_turn_105 : decode cX9_turn 105 = .ok (.ireturn, 1) := by decide +kernel
theorem dX9_step_0 : decode cX9_step 0 = .ok (.iload_n 1, 1) := by decide +kernel
theorem dX9_step_1 : decode cX9_step 1 = .ok (.ifCond .le 38, 3) := by decide +kernel
theorem dX9_step_4 : decode cX9_step 4 = .ok (.aload_n 0, 1) := by decide +kernel
theorem dX9_step_5 : decode cX9_step 5 = .ok (.aload_n 0, 1) := by decide +kernel
theorem dX9_step_6 : decode cX9_step 6 = .ok (.getfield 23, 3) := by decide +kernel
theorem dX9_step_9 : decode cX9_step 9 = .ok (.iconst 4, 1) := by decide +kernel
theorem dX9_step_10 : decode cX9_step 10 = .ok (.iload_n 1, 1) := by decide +kernel
theorem dX9_step_11 : decode cX9_step 11 = .ok (.iconst 1, 1) := by decide +kernel
theorem dX9_step_12 : decode cX9_step 12 = .ok (.isub, 1) := by decide +kernel
theorem dX9_step_13 : decode cX9_step 13 = .ok (.imul, 1) := by decide +kernel
theorem dX9_step_14 : decode cX9_step 14 = .ok (.iload_n 2, 1) := by decide +kernel
theorem dX9_step_15 : decode cX9_step 15 = .ok (.iadd, 1) := by decide +kernel
theorem dX9_step_16 : decode cX9_step 16 = .ok (.iaload, 1) := by decide +kernel
theorem dX9_step_17 : decode cX9_step 17 = .ok (.putfield 147, 3) := by decide +kernel
theorem dX9_step_20 : decode cX9_step 20 = .ok (.aload_n 0, 1) := by decide +kernel
theorem dX9_step_21 : decode cX9_step 21 = .ok (.aload_n 0, 1) := by decide +kernel
theorem dX9_step_22 : decode cX9_step 22 = .ok (.getfield 26, 3) := by decide +kernel
theorem dX9_step_25 : decode cX9_step 25 = .ok (.iconst 4, 1) := by decide +kernel
theorem dX9_step_26 : decode cX9_step 26 = .ok (.iload_n 1, 1) := by decide +kernel
theorem dX9_step_27 : decode cX9_step 27 = .ok (.iconst 1, 1) := by decide +kernel
theorem dX9_step_28 : decode cX9_step 28 = .ok (.isub, 1) := by decide +kernel
theorem dX9_step_29 : decode cX9_step 29 = .ok (.imul, 1) := by decide +kernel
theorem dX9_step_30 : decode cX9_step 30 = .ok (.iload_n 2, 1) := by decide +kernel
theorem dX9_step_31 : decode cX9_step 31 = .ok (.iadd, 1) := by decide +kernel
theorem dX9_step_32 : decode cX9_step 32 = .ok (.iaload, 1) := by decide +kernel
theorem dX9_step_33 : decode cX9_step 33 = .ok (.iconst 1, 1) := by decide +kernel
