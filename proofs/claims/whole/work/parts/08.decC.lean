theorem dX8_sheet_0 : decode cX8_sheet 0 = .ok (.iload_n 1, 1) := by decide +kernel
theorem dX8_sheet_1 : decode cX8_sheet 1 = .ok (.invokestatic 66, 3) := by decide +kernel
theorem dX8_sheet_4 : decode cX8_sheet 4 = .ok (.ifCond .eq 12, 3) := by decide +kernel
theorem dX8_sheet_7 : decode cX8_sheet 7 = .ok (.iload_n 2, 1) := by decide +kernel
theorem dX8_sheet_8 : decode cX8_sheet 8 = .ok (.ifCond .lt 8, 3) := by decide +kernel
theorem dX8_sheet_11 : decode cX8_sheet 11 = .ok (.iload_n 2, 1) := by decide +kernel
theorem dX8_sheet_12 : decode cX8_sheet 12 = .ok (.iconst 2, 1) := by decide +kernel
theorem dX8_sheet_13 : decode cX8_sheet 13 = .ok (.if_icmp .le 5, 3) := by decide +kernel
theorem dX8_sheet_16 : decode cX8_sheet 16 = .ok (.iconst (-1), 1) := by decide +kernel
theorem dX8_sheet_17 : decode cX8_sheet 17 = .ok (.ireturn, 1) := by decide +kernel
theorem dX8_sheet_18 : decode cX8_sheet 18 = .ok (.iload_n 3, 1) := by decide +kernel
theorem dX8_sheet_19 : decode cX8_sheet 19 = .ok (.ifCond .ge 6, 3) := by decide +kernel
theorem dX8_sheet_22 : decode cX8_sheet 22 = .ok (.bipush (-4), 2) := by decide +kernel
theorem dX8_sheet_24 : decode cX8_sheet 24 = .ok (.ireturn, 1) := by decide +kernel
theorem dX8_sheet_25 : decode cX8_sheet 25 = .ok (.iload_n 3, 1) := by decide +kernel
theorem dX8_sheet_26 : decode cX8_sheet 26 = .ok (.bipush 40, 2) := by decide +kernel
theorem dX8_sheet_28 : decode cX8_sheet 28 = .ok (.if_icmp .le 5, 3) := by decide +kernel
theorem dX8_sheet_31 : decode cX8_sheet 31 = .ok (.iconst (-1), 1) := by decide +kernel
theorem dX8_sheet_32 : decode cX8_sheet 32 = .ok (.ireturn, 1) := by decide +kernel
theorem dX8_sheet_33 : decode cX8_sheet 33 = .ok (.aload_n 0, 1) := by decide +kernel
theorem dX8_sheet_34 : decode cX8_sheet 34 = .ok (.getfield 11, 3) := by decide +kernel
theorem dX8_sheet_37 : decode cX8_sheet 37 = .ok (.iload_n 1, 1) := by decide +kernel
theorem dX8_sheet_38 : decode cX8_sheet 38 = .ok (.aaload, 1) := by decide +kernel
theorem dX8_sheet_39 : decode cX8_sheet 39 = .ok (.iload_n 2, 1) := by decide +kernel
theorem dX8_sheet_40 : decode cX8_sheet 40 = .ok (.iload_n 3, 1) := by decide +kernel
theorem dX8_sheet_41 : decode cX8_sheet 41 = .ok (.invokevirtual 70, 3) := by decide +kernel
theorem dX8_sheet_44 : decode cX8_sheet 44 = .ok (.iconst 1, 1) := by decide +kernel
theorem dX8_sheet_45 : decode cX8_sheet 45 = .ok (.ireturn, 1) := by decide +kernel
theorem dX8_cell_0 : decode cX8_cell 0 = .ok (.iload_n 1, 1) := by decide +kernel
theorem dX8_cell_1 : decode cX8_cell 1 = .ok (.invokestatic 66, 3) := by decide +kernel
theorem dX8_cell_4 : decode cX8_cell 4 = .ok (.ifCond .ne 5, 3) := by decide +kernel
theorem dX8_cell_7 : decode cX8_cell 7 = .ok (.iconst (-1), 1) := by decide +kernel
theorem dX8_cell_8 : decode cX8_cell 8 = .ok (.ireturn, 1) := by decide +kernel
theorem dX8_cell_9 : decode cX8_cell 9 = .ok (.aload_n 0, 1) := by decide +kernel
theorem dX8_cell_10 : decode cX8_cell 10 = .ok (.getfield 11, 3) := by decide +kernel
theorem dX8_cell_13 : decode cX8_cell 13 = .ok (.iload_n 1, 1) := by decide +kernel
theorem dX8_cell_14 : decode cX8_cell 14 = .ok (.aaload, 1) := by decide +kernel
theorem dX8_cell_15 : decode cX8_cell 15 = .ok (.getfield 74, 3) := by decide +kernel
theorem dX8_cell_18 : decode cX8_cell 18 = .ok (.ifCond .ne 6, 3) := by decide +kernel
theorem dX8_cell_21 : decode cX8_cell 21 = .ok (.bipush (-3), 2) := by decide +kernel
theorem dX8_cell_23 : decode cX8_cell 23 = .ok (.ireturn, 1) := by decide +kernel
theorem dX8_cell_24 : decode cX8_cell 24 = .ok (.aload_n 0, 1) := by decide +kernel
theorem dX8_cell_25 : decode cX8_cell 25 = .ok (.getfield 11, 3) := by decide +kernel
theorem dX8_cell_28 : decode cX8_cell 28 = .ok (.iload_n 1, 1) := by decide +kernel
theorem dX8_cell_29 : decode cX8_cell 29 = .ok (.aaload, 1) := by decide +kernel
theorem dX8_cell_30 : decode cX8_cell 30 = .ok (.iload_n 2, 1) := by decide +kernel
theorem dX8_cell_31 : decode cX8_cell 31 = .ok (.invokevirtual 78, 3) := by decide +kernel
theorem dX8_cell_34 : decode cX8_cell 34 = .ok (.ifCond .ne 5, 3) := by decide +kernel
theorem dX8_cell_37 : decode cX8_cell 37 = .ok (.iconst (-1), 1) := by decide +kernel
theorem dX8_cell_38 : decode cX8_cell 38 = .ok (.ireturn, 1) := by decide +kernel
theorem dX8_cell_39 : decode cX8_cell 39 = .ok (.aload_n 0, 1) := by decide +kernel
theorem dX8_cell_40 : decode cX8_cell 40 = .ok (.getfield 11, 3) := by decide +kernel
theorem dX8_cell_43 : decode cX8_cell 43 = .ok (.iload_n 1, 1) := by decide +kernel
theorem dX8_cell_44 : decode cX8_cell 44 = .ok (.aaload, 1) := by decide +kernel
theorem dX8_cell_45 : decode cX8_cell 45 = .ok (.iload_n 2, 1) := by decide +kernel
theorem dX8_cell_46 : decode cX8_cell 46 = .ok (.iload_n 3, 1) := by decide +kernel
theorem dX8_cell_47 : decode cX8_cell 47 = .ok (.invokevirtual 81, 3) := by decide +kernel
theorem dX8_cell_50 : decode cX8_cell 50 = .ok (.iconst 1, 1) := by decide +kernel
theorem dX8_cell_51 : decode cX8_cell 51 = .ok (.ireturn, 1) := by decide +kernel
theorem dX8_told_0 : decode cX8_told 0 = .ok (.iload_n 1, 1) := by decide +kernel
theorem dX8_told_1 : decode cX8_told 1 = .ok (.invokestatic 66, 3) := by decide +kernel
theorem dX8_told_4 : decode cX8_told 4 = .ok (.ifCond .eq 28, 3) := by decide +kernel
theorem dX8_told_7 : decode cX8_told 7 = .ok (.aload_n 0, 1) := by decide +kernel
theorem dX8_told_8 : decode cX8_told 8 = .ok (.getfield 11, 3) := by decide +kernel
theorem dX8_told_11 : decode cX8_told 11 = .ok (.iload_n 1, 1) := by decide +kernel
theorem dX8_told_12 : decode cX8_told 12 = .ok (.aaload, 1) := by decide +kernel
theorem dX8_told_13 : decode cX8_told 13 = .ok (.getfield 74, 3) := by decide +kernel
theorem dX8_told_16 : decode cX8_told 16 = .ok (.ifCond .eq 16, 3) := by decide +kernel
theorem dX8_told_19 : decode cX8_told 19 = .ok (.aload_n 0, 1) := by decide +kernel
theorem dX8_told_20 : decode cX8_told 20 = .ok (.getfield 11, 3) := by decide +kernel
theorem dX8_told_23 : decode cX8_told 23 = .ok (.iload_n 1, 1) := by decide +kernel
theorem dX8_told_24 : decode cX8_told 24 = .ok (.aaload, 1) := by decide +kernel
theorem dX8_told_25 : decode cX8_told 25 = .ok (.iload_n 2, 1) := by decide +kernel
theorem dX8_told_26 : decode cX8_told 26 = .ok (.invokevirtual 78, 3) := by decide +kernel
theorem dX8_told_29 : decode cX8_told 29 = .ok (.ifCond .ne 6, 3) := by decide +kernel
theorem dX8_told_32 : decode cX8_told 32 = .ok (.ldc 84, 2) := by decide +kernel
theorem dX8_told_34 : decode cX8_told 34 = .ok (.ireturn, 1) := by decide +kernel
theorem dX8_told_35 : decode cX8_told 35 = .ok (.aload_n 0, 1) := by decide +kernel
theorem dX8_told_36 : decode cX8_told 36 = .ok (.getfield 11, 3) := by decide +kernel
theorem dX8_told_39 : decode cX8_told 39 = .ok (.iload_n 1, 1) := by decide +kernel
theorem dX8_told_40 : decode cX8_told 40 = .ok (.aaload, 1) := by decide +kernel
theorem dX8_told_41 : decode cX8_told 41 = .ok (.getfield 85, 3) := by decide +kernel
theorem dX8_told_44 : decode cX8_told 44 = .ok (.iload_n 2, 1) := by decide +kernel
theorem dX8_told_45 : decode cX8_told 45 = .ok (.iaload, 1) := by decide +kernel
theorem dX8_told_46 : decode cX8_told 46 = .ok (.ireturn, 1) := by decide +kernel
theorem dX8_lose_0 : decode cX8_lose 0 = .ok (.iload_n 1, 1) := by decide +kernel
theorem dX8_lose_1 : decode cX8_lose 1 = .ok (.invokestatic 66, 3) := by decide +kernel
theorem dX8_lose_4 : decode cX8_lose 4 = .ok (.ifCond .ne 5, 3) := by decide +kernel
theorem dX8_lose_7 : decode cX8_lose 7 = .ok (.iconst (-1), 1) := by decide +kernel
theorem dX8_lose_8 : decode cX8_lose 8 = .ok (.ireturn, 1) := by decide +kernel
theorem dX8_lose_9 : decode cX8_lose 9 = .ok (.aload_n 0, 1) := by decide +kernel
theorem dX8_lose_10 : decode cX8_lose 10 = .ok (.getfield 11, 3) := by decide +kernel
theorem dX8_lose_13 : decode cX8_lose 13 = .ok (.iload_n 1, 1) := by decide +kernel
theorem dX8_lose_14 : decode cX8_lose 14 = .ok (.aaload, 1) := by decide +kernel
theorem dX8_lose_15 : decode cX8_lose 15 = .ok (.getfield 74, 3) := by decide +kernel
theorem dX8_lose_18 : decode cX8_lose 18 = .ok (.ifCond .ne 6, 3) := by decide +kernel
theorem dX8_lose_21 : decode cX8_lose 21 = .ok (.bipush (-3), 2) := by decide +kernel
theorem dX8_lose_23 : decode cX8_lose 23 = .ok (.ireturn, 1) := by decide +kernel
theorem dX8_lose_24 : decode cX8_lose 24 = .ok (.aload_n 0, 1) := by decide +kernel
theorem dX8_lose_25 : decode cX8_lose 25 = .ok (.getfield 11, 3) := by decide +kernel
theorem dX8_lose_28 : decode cX8_lose 28 = .ok (.iload_n 1, 1) := by decide +kernel
theorem dX8_lose_29 : decode cX8_lose 29 = .ok (.aaload, 1) := by decide +kernel
theorem dX8_lose_30 : decode cX8_lose 30 = .ok (.iconst 0, 1) := by decide +kernel
theorem dX8_lose_31 : decode cX8_lose 31 = .ok (.putfield 74, 3) := by decide +kernel
theorem dX8_lose_34 : decode cX8_lose 34 = .ok (.iconst 1, 1) := by decide +kernel
theorem dX8_lose_35 : decode cX8_lose 35 = .ok (.ireturn, 1) := by decide +kernel
theorem dX8_letters_0 : decode cX8_letters 0 = .ok (.iload_n 1, 1) := by decide +kernel
theorem dX8_letters_1 : decode cX8_letters 1 = .ok (.iconst 2, 1) := by decide +kernel
theorem dX8_letters_2 : decode cX8_letters 2 = .ok (.if_icmp .lt 8, 3) := by decide +kernel
theorem dX8_letters_5 : decode cX8_letters 5 = .ok (.iload_n 1, 1) := by decide +kernel
theorem dX8_letters_6 : decode cX8_letters 6 = .ok (.iconst 4, 1) := by decide +kernel
theorem dX8_letters_7 : decode cX8_letters 7 = .ok (.if_icmp .le 5, 3) := by decide +kernel
theorem dX8_letters_10 : decode cX8_letters 10 = .ok (.iconst (-1), 1) := by decide +kernel
theorem dX8_letters_11 : decode cX8_letters 11 = .ok (.ireturn, 1) := by decide +kernel
theorem dX8_letters_12 : decode cX8_letters 12 = .ok (.aload_n 0, 1) := by decide +kernel
theorem dX8_letters_13 : decode cX8_letters 13 = .ok (.getfield 33, 3) := by decide +kernel
theorem dX8_letters_16 : decode cX8_letters 16 = .ok (.iload_n 1, 1) := by decide +kernel
theorem dX8_letters_17 : decode cX8_letters 17 = .ok (.invokevirtual 88, 3) := by decide +kernel
theorem dX8_letters_20 : decode cX8_letters 20 = .ok (.aload_n 0, 1) := by decide +kernel
theorem dX8_letters_21 : decode cX8_letters 21 = .ok (.invokevirtual 92, 3) := by decide +kernel
theorem dX8_letters_24 : decode cX8_letters 24 = .ok (.iconst 0, 1) := by decide +kernel
theorem dX8_letters_25 : decode cX8_letters 25 = .ok (.istore_n 2, 1) := by decide +kernel
theorem dX8_letters_26 : decode cX8_letters 26 = .ok (.iload_n 2, 1) := by decide +kernel
theorem dX8_letters_27 : decode cX8_letters 27 = .ok (.bipush 8, 2) := by decide +kernel
theorem dX8_letters_29 : decode cX8_letters 29 = .ok (.if_icmp .ge 18, 3) := by decide +kernel
theorem dX8_letters_32 : decode cX8_letters 32 = .ok (.aload_n 0, 1) := by decide +kernel
theorem dX8_letters_33 : decode cX8_letters 33 = .ok (.getfield 17, 3) := by decide +kernel
theorem dX8_letters_36 : decode cX8_letters 36 = .ok (.iload_n 2, 1) := by decide +kernel
theorem dX8_letters_37 : decode cX8_letters 37 = .ok (.aaload, 1) := by decide +kernel
theorem dX8_letters_38 : decode cX8_letters 38 = .ok (.invokevirtual 95, 3) := by decide +kernel
theorem dX8_letters_41 : decode cX8_letters 41 = .ok (.iinc 2 1, 3) := by decide +kernel
theorem dX8_letters_44 : decode cX8_letters 44 = .ok (.goto (-18), 3) := by decide +kernel
theorem dX8_letters_47 : decode cX8_letters 47 = .ok (.iconst 1, 1) := by decide +kernel
theorem dX8_letters_48 : decode cX8_letters 48 = .ok (.ireturn, 1) := by decide +kernel
theorem dX8_state_0 : decode cX8_state 0 = .ok (.iload_n 1, 1) := by decide +kernel
theorem dX8_state_1 : decode cX8_state 1 = .ok (.invokestatic 66, 3) := by decide +kernel
theorem dX8_state_4 : decode cX8_state 4 = .ok (.ifCond .eq 7, 3) := by decide +kernel
theorem dX8_state_7 : decode cX8_state 7 = .ok (.iload_n 2, 1) := by decide +kernel
theorem dX8_state_8 : decode cX8_state 8 = .ok (.ifCond .ge 5, 3) := by decide +kernel
theorem dX8_state_11 : decode cX8_state 11 = .ok (.iconst (-1), 1) := by decide +kernel
theorem dX8_state_12 : decode cX8_state 12 = .ok (.ireturn, 1) := by decide +kernel
theorem dX8_state_13 : decode cX8_state 13 = .ok (.aload_n 0, 1) := by decide +kernel
theorem dX8_state_14 : decode cX8_state 14 = .ok (.getfield 11, 3) := by decide +kernel
theorem dX8_state_17 : decode cX8_state 17 = .ok (.iload_n 1, 1) := by decide +kernel
theorem dX8_state_18 : decode cX8_state 18 = .ok (.aaload, 1) := by decide +kernel
theorem dX8_state_19 : decode cX8_state 19 = .ok (.getfield 74, 3) := by decide +kernel
theorem dX8_state_22 : decode cX8_state 22 = .ok (.ifCond .ne 6, 3) := by decide +kernel
theorem dX8_state_25 : decode cX8_state 25 = .ok (.bipush (-3), 2) := by decide +kernel
theorem dX8_state_27 : decode cX8_state 27 = .ok (.ireturn, 1) := by decide +kernel
theorem dX8_state_28 : decode cX8_state 28 = .ok (.aload_n 0, 1) := by decide +kernel
theorem dX8_state_29 : decode cX8_state 29 = .ok (.getfield 33, 3) := by decide +kernel
theorem dX8_state_32 : decode cX8_state 32 = .ok (.aload_n 0, 1) := by decide +kernel
theorem dX8_state_33 : decode cX8_state 33 = .ok (.getfield 11, 3) := by decide +kernel
theorem dX8_state_36 : decode cX8_state 36 = .ok (.iload_n 1, 1) := by decide +kernel
theorem dX8_state_37 : decode cX8_state 37 = .ok (.aaload, 1) := by decide +kernel
theorem dX8_state_38 : decode cX8_state 38 = .ok (.iload_n 2, 1) := by decide +kernel
theorem dX8_state_39 : decode cX8_state 39 = .ok (.invokevirtual 98, 3) := by decide +kernel
theorem dX8_state_42 : decode cX8_state 42 = .ok (.ifCond .ne 5, 3) := by decide +kernel
theorem dX8_state_45 : decode cX8_state 45 = .ok (.iconst (-1), 1) := by decide +kernel
theorem dX8_state_46 : decode cX8_state 46 = .ok (.ireturn, 1) := by decide +kernel
theorem dX8_state_47 : decode cX8_state 47 = .ok (.aload_n 0, 1) := by decide +kernel
theorem dX8_state_48 : decode cX8_state 48 = .ok (.getfield 33, 3) := by decide +kernel
theorem dX8_state_51 : decode cX8_state 51 = .ok (.getfield 102, 3) := by decide +kernel
theorem dX8_state_54 : decode cX8_state 54 = .ok (.bipush 8, 2) := by decide +kernel
theorem dX8_state_56 : decode cX8_state 56 = .ok (.if_icmp .lt 6, 3) := by decide +kernel
theorem dX8_state_59 : decode cX8_state 59 = .ok (.bipush (-2), 2) := by decide +kernel
theorem dX8_state_61 : decode cX8_state 61 = .ok (.ireturn, 1) := by decide +kernel
theorem dX8_state_62 : decode cX8_state 62 = .ok (.aload_n 0, 1) := by decide +kernel
theorem dX8_state_63 : decode cX8_state 63 = .ok (.getfield 33, 3) := by decide +kernel
theorem dX8_state_66 : decode cX8_state 66 = .ok (.aload_n 0, 1) := by decide +kernel
theorem dX8_state_67 : decode cX8_state 67 = .ok (.getfield 11, 3) := by decide +kernel
theorem dX8_state_70 : decode cX8_state 70 = .ok (.iload_n 1, 1) := by decide +kernel
theorem dX8_state_71 : decode cX8_state 71 = .ok (.aaload, 1) := by decide +kernel
theorem dX8_state_72 : decode cX8_state 72 = .ok (.iload_n 2, 1) := by decide +kernel
theorem dX8_state_73 : decode cX8_state 73 = .ok (.invokevirtual 106, 3) := by decide +kernel
theorem dX8_state_76 : decode cX8_state 76 = .ok (.aload_n 0, 1) := by decide +kernel
theorem dX8_state_77 : decode cX8_state 77 = .ok (.invokevirtual 92, 3) := by decide +kernel
theorem dX8_state_80 : decode cX8_state 80 = .ok (.aload_n 0, 1) := by decide +kernel
theorem dX8_state_81 : decode cX8_state 81 = .ok (.getfield 33, 3) := by decide +kernel
theorem dX8_state_84 : decode cX8_state 84 = .ok (.getfield 102, 3) := by decide +kernel
theorem dX8_state_87 : decode cX8_state 87 = .ok (.iconst 1, 1) := by decide +kernel
theorem dX8_state_88 : decode cX8_state 88 = .ok (.isub, 1) := by decide +kernel
theorem dX8_state_89 : decode cX8_state 89 = .ok (.ireturn, 1) := by decide +kernel
theorem dX8_change_0 : decode cX8_change 0 = .ok (.aload_n 0, 1) := by decide +kernel
theorem dX8_change_1 : decode cX8_change 1 = .ok (.getfield 33, 3) := by decide +kernel
theorem dX8_change_4 : decode cX8_change 4 = .ok (.iload_n 1, 1) := by decide +kernel
theorem dX8_change_5 : decode cX8_change 5 = .ok (.invokevirtual 110, 3) := by decide +kernel
theorem dX8_change_8 : decode cX8_change 8 = .ok (.ifCond .eq 33, 3) := by decide +kernel
theorem dX8_change_11 : decode cX8_change 11 = .ok (.aload_n 0, 1) := by decide +kernel
theorem dX8_change_12 : decode cX8_change 12 = .ok (.getfield 33, 3) := by decide +kernel
theorem dX8_change_15 : decode cX8_change 15 = .ok (.iload_n 2, 1) := by decide +kernel
theorem dX8_change_16 : decode cX8_change 16 = .ok (.invokevirtual 113, 3) := by decide +kernel
theorem dX8_change_19 : decode cX8_change 19 = .ok (.ifCond .eq 22, 3) := by decide +kernel
theorem dX8_change_22 : decode cX8_change 22 = .ok (.aload_n 0, 1) := by decide +kernel
theorem dX8_change_23 : decode cX8_change 23 = .ok (.getfield 33, 3) := by decide +kernel
theorem dX8_change_26 : decode cX8_change 26 = .ok (.iload_n 3, 1) := by decide +kernel
theorem dX8_change_27 : decode cX8_change 27 = .ok (.invokevirtual 113, 3) := by decide +kernel
theorem dX8_change_30 : decode cX8_change 30 = .ok (.ifCond .eq 11, 3) := by decide +kernel
theorem dX8_change_33 : decode cX8_change 33 = .ok (.iload 4, 2) := by decide +kernel
theorem dX8_change_35 : decode cX8_change 35 = .ok (.invokestatic 116, 3) := by decide +kernel
theorem dX8_change_38 : decode cX8_change 38 = .ok (.ifCond .ne 5, 3) := by decide +kernel
theorem dX8_change_41 : decode cX8_change 41 = .ok (.iconst (-1), 1) := by decide +kernel
theorem dX8_change_42 : decode cX8_change 42 = .ok (.ireturn, 1) := by decide +kernel
theorem dX8_change_43 : decode cX8_change 43 = .ok (.aload_n 0, 1) := by decide +kernel
theorem dX8_change_44 : decode cX8_change 44 = .ok (.getfield 33, 3) := by decide +kernel
theorem dX8_change_47 : decode cX8_change 47 = .ok (.iload_n 1, 1) := by decide +kernel
theorem dX8_change_48 : decode cX8_change 48 = .ok (.iload_n 2, 1) := by decide +kernel
theorem dX8_change_49 : decode cX8_change 49 = .ok (.iload_n 3, 1) := by decide +kernel
theorem dX8_change_50 : decode cX8_change 50 = .ok (.iload 4, 2) := by decide +kernel
theorem dX8_change_52 : decode cX8_change 52 = .ok (.invokevirtual 119, 3) := by decide +kernel
theorem dX8_change_55 : decode cX8_change 55 = .ok (.aload_n 0, 1) := by decide +kernel
theorem dX8_change_56 : decode cX8_change 56 = .ok (.invokevirtual 92, 3) := by decide +kernel
theorem dX8_change_59 : decode cX8_change 59 = .ok (.iconst 0, 1) := by decide +kernel
theorem dX8_change_60 : decode cX8_change 60 = .ok (.istore 5, 2) := by decide +kernel
theorem dX8_change_62 : decode cX8_change 62 = .ok (.iload 5, 2) := by decide +kernel
theorem dX8_change_64 : decode cX8_change 64 = .ok (.bipush 8, 2) := by decide +kernel
theorem dX8_change_66 : decode cX8_change 66 = .ok (.if_icmp .ge 33, 3) := by decide +kernel
theorem dX8_change_69 : decode cX8_change 69 = .ok (.aload_n 0, 1) := by decide +kernel
theorem dX8_change_70 : decode cX8_change 70 = .ok (.aload_n 0, 1) := by decide +kernel
theorem dX8_change_71 : decode cX8_change 71 = .ok (.getfield 17, 3) := by decide +kernel
theorem dX8_change_74 : decode cX8_change 74 = .ok (.iload 5, 2) := by decide +kernel
theorem dX8_change_76 : decode cX8_change 76 = .ok (.aaload, 1) := by decide +kernel
theorem dX8_change_77 : decode cX8_change 77 = .ok (.invokevirtual 123, 3) := by decide +kernel
theorem dX8_change_80 : decode cX8_change 80 = .ok (.ifCond .eq 13, 3) := by decide +kernel
theorem dX8_change_83 : decode cX8_change 83 = .ok (.aload_n 0, 1) := by decide +kernel
theorem dX8_change_84 : decode cX8_change 84 = .ok (.getfield 17, 3) := by decide +kernel
theorem dX8_change_87 : decode cX8_change 87 = .ok (.iload 5, 2) := by decide +kernel
theorem dX8_change_89 : decode cX8_change 89 = .ok (.aaload, 1) := by decide +kernel
theorem dX8_change_90 : decode cX8_change 90 = .ok (.invokevirtual 95, 3) := by decide +kernel
theorem dX8_change_93 : decode cX8_change 93 = .ok (.iinc 5 1, 3) := by decide +kernel
theorem dX8_change_96 : decode cX8_change 96 = .ok (.goto (-34), 3) := by decide +kernel
theorem dX8_change_99 : decode cX8_change 99 = .ok (.iconst 1, 1) := by decide +kernel
theorem dX8_change_100 : decode cX8_change 100 = .ok (.ireturn, 1) := by decide +kernel
theorem dX8_of_0 : decode cX8_of 0 = .ok (.aload_n 0, 1) := by decide +kernel
theorem dX8_of_1 : decode cX8_of 1 = .ok (.getfield 33, 3) := by decide +kernel
theorem dX8_of_4 : decode cX8_of 4 = .ok (.iload_n 1, 1) := by decide +kernel
theorem dX8_of_5 : decode cX8_of 5 = .ok (.invokevirtual 110, 3) := by decide +kernel
theorem dX8_of_8 : decode cX8_of 8 = .ok (.ifCond .eq 12, 3) := by decide +kernel
theorem dX8_of_11 : decode cX8_of 11 = .ok (.iload_n 3, 1) := by decide +kernel
theorem dX8_of_12 : decode cX8_of 12 = .ok (.ifCond .lt 8, 3) := by decide +kernel
theorem dX8_of_15 : decode cX8_of 15 = .ok (.iload_n 3, 1) := by decide +kernel
theorem dX8_of_16 : decode cX8_of 16 = .ok (.iconst 2, 1) := by decide +kernel
theorem dX8_of_17 : decode cX8_of 17 = .ok (.if_icmp .le 6, 3) := by decide +kernel
theorem dX8_of_20 : decode cX8_of 20 = .ok (.bipush (-2), 2) := by decide +kernel
theorem dX8_of_22 : decode cX8_of 22 = .ok (.ireturn, 1) := by decide +kernel
theorem dX8_of_23 : decode cX8_of 23 = .ok (.iload_n 3, 1) := by decide +kernel
theorem dX8_of_24 : decode cX8_of 24 = .ok (.iconst 2, 1) := by decide +kernel
theorem dX8_of_25 : decode cX8_of 25 = .ok (.if_icmp .ne 20, 3) := by decide +kernel
theorem dX8_of_28 : decode cX8_of 28 = .ok (.aload_n 0, 1) := by decide +kernel
theorem dX8_of_29 : decode cX8_of 29 = .ok (.getfield 33, 3) := by decide +kernel
theorem dX8_of_32 : decode cX8_of 32 = .ok (.iload_n 1, 1) := by decide +kernel
theorem dX8_of_33 : decode cX8_of 33 = .ok (.invokevirtual 127, 3) := by decide +kernel
theorem dX8_of_36 : decode cX8_of 36 = .ok (.ifCond .eq 7, 3) := by decide +kernel
theorem dX8_of_39 : decode cX8_of 39 = .ok (.iconst 1, 1) := by decide +kernel
theorem dX8_of_40 : decode cX8_of 40 = .ok (.goto 4, 3) := by decide +kernel
theorem dX8_of_43 : decode cX8_of 43 = .ok (.iconst 0, 1) := by decide +kernel
theorem dX8_of_44 : decode cX8_of 44 = .ok (.ireturn, 1) := by decide +kernel
theorem dX8_of_45 : decode cX8_of 45 = .ok (.aload_n 0, 1) := by decide +kernel
theorem dX8_of_46 : decode cX8_of 46 = .ok (.getfield 33, 3) := by decide +kernel
theorem dX8_of_49 : decode cX8_of 49 = .ok (.iload_n 2, 1) := by decide +kernel
theorem dX8_of_50 : decode cX8_of 50 = .ok (.invokevirtual 113, 3) := by decide +kernel
theorem dX8_of_53 : decode cX8_of 53 = .ok (.ifCond .ne 6, 3) := by decide +kernel
theorem dX8_of_56 : decode cX8_of 56 = .ok (.bipush (-2), 2) := by decide +kernel
theorem dX8_of_58 : decode cX8_of 58 = .ok (.ireturn, 1) := by decide +kernel
theorem dX8_of_59 : decode cX8_of 59 = .ok (.iload_n 1, 1) := by decide +kernel
theorem dX8_of_60 : decode cX8_of 60 = .ok (.iconst 4, 1) := by decide +kernel
theorem dX8_of_61 : decode cX8_of 61 = .ok (.imul, 1) := by decide +kernel
theorem dX8_of_62 : decode cX8_of 62 = .ok (.iload_n 2, 1) := by decide +kernel
theorem dX8_of_63 : decode cX8_of 63 = .ok (.iadd, 1) := by decide +kernel
theorem dX8_of_64 : decode cX8_of 64 = .ok (.istore 4, 2) := by decide +kernel
theorem dX8_of_66 : decode cX8_of 66 = .ok (.iload_n 3, 1) := by decide +kernel
theorem dX8_of_67 : decode cX8_of 67 = .ok (.ifCond .ne 16, 3) := by decide +kernel
theorem dX8_of_70 : decode cX8_of 70 = .ok (.aload_n 0, 1) := by decide +kernel
theorem dX8_of_71 : decode cX8_of 71 = .ok (.getfield 33, 3) := by decide +kernel
theorem dX8_of_74 : decode cX8_of 74 = .ok (.getfield 130, 3) := by decide +kernel
theorem dX8_of_77 : decode cX8_of 77 = .ok (.iload 4, 2) := by decide +kernel
theorem dX8_of_79 : decode cX8_of 79 = .ok (.iaload, 1) := by decide +kernel
theorem dX8_of_80 : decode cX8_of 80 = .ok (.goto 13, 3) := by decide +kernel
theorem dX8_of_83 : decode cX8_of 83 = .ok (.aload_n 0, 1) := by decide +kernel
theorem dX8_of_84 : decode cX8_of 84 = .ok (.getfield 33, 3) := by decide +kernel
theorem dX8_of_87 : decode cX8_of 87 = .ok (.getfield 133, 3) := by decide +kernel
theorem dX8_of_90 : decode cX8_of 90 = .ok (.iload 4, 2) := by decide +kernel
theorem dX8_of_92 : decode cX8_of 92 = .ok (.iaload, 1) := by decide +kernel
theorem dX8_of_93 : decode cX8_of 93 = .ok (.ireturn, 1) := by decide +kernel
theorem dX8_many_0 : decode cX8_many 0 = .ok (.iload_n 1, 1) := by decide +kernel
theorem dX8_many_1 : decode cX8_many 1 = .ok (.tableswitch 71 0 3 #[31, 39, 47, 63], 31) := by decide +kernel
theorem dX8_many_32 : decode cX8_many 32 = .ok (.aload_n 0, 1) := by decide +kernel
theorem dX8_many_33 : decode cX8_many 33 = .ok (.getfield 33, 3) := by decide +kernel
theorem dX8_many_36 : decode cX8_many 36 = .ok (.getfield 136, 3) := by decide +kernel
theorem dX8_many_39 : decode cX8_many 39 = .ok (.ireturn, 1) := by decide +kernel
theorem dX8_many_40 : decode cX8_many 40 = .ok (.aload_n 0, 1) := by decide +kernel
theorem dX8_many_41 : decode cX8_many 41 = .ok (.getfield 33, 3) := by decide +kernel
theorem dX8_many_44 : decode cX8_many 44 = .ok (.getfield 102, 3) := by decide +kernel
theorem dX8_many_47 : decode cX8_many 47 = .ok (.ireturn, 1) := by decide +kernel
theorem dX8_many_48 : decode cX8_many 48 = .ok (.aload_n 0, 1) := by decide +kernel
theorem dX8_many_49 : decode cX8_many 49 = .ok (.getfield 33, 3) := by decide +kernel
theorem dX8_many_52 : decode cX8_many 52 = .ok (.getfield 139, 3) := by decide +kernel
theorem dX8_many_55 : decode cX8_many 55 = .ok (.ifCond .eq 7, 3) := by decide +kernel
theorem dX8_many_58 : decode cX8_many 58 = .ok (.iconst 1, 1) := by decide +kernel
theorem dX8_many_59 : decode cX8_many 59 = .ok (.goto 4, 3) := by decide +kernel
theorem dX8_many_62 : decode cX8_many 62 = .ok (.iconst 0, 1) := by decide +kernel
theorem dX8_many_63 : decode cX8_many 63 = .ok (.ireturn, 1) := by decide +kernel
theorem dX8_many_64 : decode cX8_many 64 = .ok (.aload_n 0, 1) := by decide +kernel
theorem dX8_many_65 : decode cX8_many 65 = .ok (.getfield 33, 3) := by decide +kernel
theorem dX8_many_68 : decode cX8_many 68 = .ok (.getfield 142, 3) := by decide +kernel
theorem dX8_many_71 : decode cX8_many 71 = .ok (.ireturn, 1) := by decide +kernel
theorem dX8_many_72 : decode cX8_many 72 = .ok (.iconst (-1), 1) := by decide +kernel
theorem dX8_many_73 : decode cX8_many 73 = .ok (.ireturn, 1) := by decide +kernel
theorem dX8_put_0 : decode cX8_put 0 = .ok (.iload_n 1, 1) := by decide +kernel
theorem dX8_put_1 : decode cX8_put 1 = .ok (.invokestatic 145, 3) := by decide +kernel
theorem dX8_put_4 : decode cX8_put 4 = .ok (.ifCond .ne 5, 3) := by decide +kernel
theorem dX8_put_7 : decode cX8_put 7 = .ok (.iconst (-1), 1) := by decide +kernel
theorem dX8_put_8 : decode cX8_put 8 = .ok (.ireturn, 1) := by decide +kernel
theorem dX8_put_9 : decode cX8_put 9 = .ok (.aload_n 0, 1) := by decide +kernel
theorem dX8_put_10 : decode cX8_put 10 = .ok (.getfield 21, 3) := by decide +kernel
theorem dX8_put_13 : decode cX8_put 13 = .ok (.iconst 0, 1) := by decide +kernel
theorem dX8_put_14 : decode cX8_put 14 = .ok (.iload_n 2, 1) := by decide +kernel
theorem dX8_put_15 : decode cX8_put 15 = .ok (.iastore, 1) := by decide +kernel
theorem dX8_put_16 : decode cX8_put 16 = .ok (.aload_n 0, 1) := by decide +kernel
theorem dX8_put_17 : decode cX8_put 17 = .ok (.getfield 21, 3) := by decide +kernel
theorem dX8_put_20 : decode cX8_put 20 = .ok (.iconst 1, 1) := by decide +kernel
theorem dX8_put_21 : decode cX8_put 21 = .ok (.iload_n 3, 1) := by decide +kernel
theorem dX8_put_22 : decode cX8_put 22 = .ok (.iastore, 1) := by decide +kernel
theorem dX8_put_23 : decode cX8_put 23 = .ok (.aload_n 0, 1) := by decide +kernel
theorem dX8_put_24 : decode cX8_put 24 = .ok (.getfield 21, 3) := by decide +kernel
theorem dX8_put_27 : decode cX8_put 27 = .ok (.iconst 2, 1) := by decide +kernel
theorem dX8_put_28 : decode cX8_put 28 = .ok (.iload 4, 2) := by decide +kernel
theorem dX8_put_30 : decode cX8_put 30 = .ok (.iastore, 1) := by decide +kernel
theorem dX8_put_31 : decode cX8_put 31 = .ok (.aload_n 0, 1) := by decide +kernel
theorem dX8_put_32 : decode cX8_put 32 = .ok (.getfield 21, 3) := by decide +kernel
theorem dX8_put_35 : decode cX8_put 35 = .ok (.iconst 3, 1) := by decide +kernel
theorem dX8_put_36 : decode cX8_put 36 = .ok (.iload 5, 2) := by decide +kernel
theorem dX8_put_38 : decode cX8_put 38 = .ok (.iastore, 1) := by decide +kernel
theorem dX8_put_39 : decode cX8_put 39 = .ok (.aload_n 0, 1) := by decide +kernel
theorem dX8_put_40 : decode cX8_put 40 = .ok (.invokevirtual 148, 3) := by decide +kernel
theorem dX8_put_43 : decode cX8_put 43 = .ok (.istore 6, 2) := by decide +kernel
theorem dX8_put_45 : decode cX8_put 45 = .ok (.iload 6, 2) := by decide +kernel
theorem dX8_put_47 : decode cX8_put 47 = .ok (.ifCond .ge 6, 3) := by decide +kernel
theorem dX8_put_50 : decode cX8_put 50 = .ok (.iload 6, 2) := by decide +kernel
theorem dX8_put_52 : decode cX8_put 52 = .ok (.ireturn, 1) := by decide +kernel
theorem dX8_put_53 : decode cX8_put 53 = .ok (.aload_n 0, 1) := by decide +kernel
theorem dX8_put_54 : decode cX8_put 54 = .ok (.getfield 26, 3) := by decide +kernel
theorem dX8_put_57 : decode cX8_put 57 = .ok (.invokevirtual 95, 3) := by decide +kernel
theorem dX8_put_60 : decode cX8_put 60 = .ok (.iconst 0, 1) := by decide +kernel
theorem dX8_put_61 : decode cX8_put 61 = .ok (.istore 7, 2) := by decide +kernel
theorem dX8_put_63 : decode cX8_put 63 = .ok (.iload 7, 2) := by decide +kernel
theorem dX8_put_65 : decode cX8_put 65 = .ok (.iconst 4, 1) := by decide +kernel
theorem dX8_put_66 : decode cX8_put 66 = .ok (.if_icmp .ge 37, 3) := by decide +kernel
theorem dX8_put_69 : decode cX8_put 69 = .ok (.aload_n 0, 1) := by decide +kernel
theorem dX8_put_70 : decode cX8_put 70 = .ok (.getfield 21, 3) := by decide +kernel
theorem dX8_put_73 : decode cX8_put 73 = .ok (.iload 7, 2) := by decide +kernel
theorem dX8_put_75 : decode cX8_put 75 = .ok (.iaload, 1) := by decide +kernel
theorem dX8_put_76 : decode cX8_put 76 = .ok (.ifCond .eq 27, 3) := by decide +kernel
theorem dX8_put_79 : decode cX8_put 79 = .ok (.aload_n 0, 1) := by decide +kernel
theorem dX8_put_80 : decode cX8_put 80 = .ok (.getfield 26, 3) := by decide +kernel
theorem dX8_put_83 : decode cX8_put 83 = .ok (.aload_n 0, 1) := by decide +kernel
theorem dX8_put_84 : decode cX8_put 84 = .ok (.getfield 21, 3) := by decide +kernel
theorem dX8_put_87 : decode cX8_put 87 = .ok (.iload 7, 2) := by decide +kernel
theorem dX8_put_89 : decode cX8_put 89 = .ok (.iaload, 1) := by decide +kernel
theorem dX8_put_90 : decode cX8_put 90 = .ok (.invokestatic 152, 3) := by decide +kernel
theorem dX8_put_93 : decode cX8_put 93 = .ok (.invokevirtual 156, 3) := by decide +kernel
theorem dX8_put_96 : decode cX8_put 96 = .ok (.pop, 1) := by decide +kernel
theorem dX8_put_97 : decode cX8_put 97 = .ok (.iinc 7 1, 3) := by decide +kernel
theorem dX8_put_100 : decode cX8_put 100 = .ok (.goto (-37), 3) := by decide +kernel
theorem dX8_put_103 : decode cX8_put 103 = .ok (.aload_n 0, 1) := by decide +kernel
theorem dX8_put_104 : decode cX8_put 104 = .ok (.aload_n 0, 1) := by decide +kernel
theorem dX8_put_105 : decode cX8_put 105 = .ok (.getfield 17, 3) := by decide +kernel
theorem dX8_put_108 : decode cX8_put 108 = .ok (.iload_n 1, 1) := by decide +kernel
theorem dX8_put_109 : decode cX8_put 109 = .ok (.aaload, 1) := by decide +kernel
theorem dX8_put_110 : decode cX8_put 110 = .ok (.aload_n 0, 1) := by decide +kernel
theorem dX8_put_111 : decode cX8_put 111 = .ok (.getfield 26, 3) := by decide +kernel
theorem dX8_put_114 : decode cX8_put 114 = .ok (.iload_n 1, 1) := by decide +kernel
theorem dX8_put_115 : decode cX8_put 115 = .ok (.invokevirtual 159, 3) := by decide +kernel
theorem dX8_put_118 : decode cX8_put 118 = .ok (.ireturn, 1) := by decide +kernel
theorem dX8_wipe_0 : decode cX8_wipe 0 = .ok (.iload_n 1, 1) := by decide +kernel
theorem dX8_wipe_1 : decode cX8_wipe 1 = .ok (.invokestatic 145, 3) := by decide +kernel
theorem dX8_wipe_4 : decode cX8_wipe 4 = .ok (.ifCond .ne 5, 3) := by decide +kernel
theorem dX8_wipe_7 : decode cX8_wipe 7 = .ok (.iconst (-1), 1) := by decide +kernel
theorem dX8_wipe_8 : decode cX8_wipe 8 = .ok (.ireturn, 1) := by decide +kernel
theorem dX8_wipe_9 : decode cX8_wipe 9 = .ok (.aload_n 0, 1) := by decide +kernel
theorem dX8_wipe_10 : decode cX8_wipe 10 = .ok (.getfield 17, 3) := by decide +kernel
theorem dX8_wipe_13 : decode cX8_wipe 13 = .ok (.iload_n 1, 1) := by decide +kernel
theorem dX8_wipe_14 : decode cX8_wipe 14 = .ok (.aaload, 1) := by decide +kernel
theorem dX8_wipe_15 : decode cX8_wipe 15 = .ok (.getfield 163, 3) := by decide +kernel
theorem dX8_wipe_18 : decode cX8_wipe 18 = .ok (.istore_n 2, 1) := by decide +kernel
theorem dX8_wipe_19 : decode cX8_wipe 19 = .ok (.aload_n 0, 1) := by decide +kernel
theorem dX8_wipe_20 : decode cX8_wipe 20 = .ok (.getfield 17, 3) := by decide +kernel
theorem dX8_wipe_23 : decode cX8_wipe 23 = .ok (.iload_n 1, 1) := by decide +kernel
theorem dX8_wipe_24 : decode cX8_wipe 24 = .ok (.aaload, 1) := by decide +kernel
theorem dX8_wipe_25 : decode cX8_wipe 25 = .ok (.invokevirtual 95, 3) := by decide +kernel
theorem dX8_wipe_28 : decode cX8_wipe 28 = .ok (.iload_n 2, 1) := by decide +kernel
theorem dX8_wipe_29 : decode cX8_wipe 29 = .ok (.ireturn, 1) := by decide +kernel
theorem dX8_size_0 : decode cX8_size 0 = .ok (.iload_n 1, 1) := by decide +kernel
theorem dX8_size_1 : decode cX8_size 1 = .ok (.invokestatic 145, 3) := by decide +kernel
theorem dX8_size_4 : decode cX8_size 4 = .ok (.ifCond .eq 15, 3) := by decide +kernel
theorem dX8_size_7 : decode cX8_size 7 = .ok (.aload_n 0, 1) := by decide +kernel
theorem dX8_size_8 : decode cX8_size 8 = .ok (.getfield 17, 3) := by decide +kernel
theorem dX8_size_11 : decode cX8_size 11 = .ok (.iload_n 1, 1) := by decide +kernel
theorem dX8_size_12 : decode cX8_size 12 = .ok (.aaload, 1) := by decide +kernel
theorem dX8_size_13 : decode cX8_size 13 = .ok (.getfield 163, 3) := by decide +kernel
theorem dX8_size_16 : decode cX8_size 16 = .ok (.goto 4, 3) := by decide +kernel
theorem dX8_size_19 : decode cX8_size 19 = .ok (.iconst (-1), 1) := by decide +kernel
theorem dX8_size_20 : decode cX8_size 20 = .ok (.ireturn, 1) := by decide +kernel
theorem dX8_token_0 : decode cX8_token 0 = .ok (.iload_n 1, 1) := by decide +kernel
theorem dX8_token_1 : decode cX8_token 1 = .ok (.invokestatic 145, 3) := by decide +kernel
theorem dX8_token_4 : decode cX8_token 4 = .ok (.ifCond .eq 20, 3) := by decide +kernel
theorem dX8_token_7 : decode cX8_token 7 = .ok (.iload_n 2, 1) := by decide +kernel
theorem dX8_token_8 : decode cX8_token 8 = .ok (.ifCond .lt 16, 3) := by decide +kernel
theorem dX8_token_11 : decode cX8_token 11 = .ok (.iload_n 2, 1) := by decide +kernel
theorem dX8_token_12 : decode cX8_token 12 = .ok (.aload_n 0, 1) := by decide +kernel
theorem dX8_token_13 : decode cX8_token 13 = .ok (.getfield 17, 3) := by decide +kernel
theorem dX8_token_16 : decode cX8_token 16 = .ok (.iload_n 1, 1) := by decide +kernel
theorem dX8_token_17 : decode cX8_token 17 = .ok (.aaload, 1) := by decide +kernel
theorem dX8_token_18 : decode cX8_token 18 = .ok (.getfield 163, 3) := by decide +kernel
theorem dX8_token_21 : decode cX8_token 21 = .ok (.if_icmp .lt 5, 3) := by decide +kernel
theorem dX8_token_24 : decode cX8_token 24 = .ok (.iconst 0, 1) := by decide +kernel
theorem dX8_token_25 : decode cX8_token 25 = .ok (.ireturn, 1) := by decide +kernel
theorem dX8_token_26 : decode cX8_token 26 = .ok (.aload_n 0, 1) := by decide +kernel
theorem dX8_token_27 : decode cX8_token 27 = .ok (.getfield 17, 3) := by decide +kernel
theorem dX8_token_30 : decode cX8_token 30 = .ok (.iload_n 1, 1) := by decide +kernel
theorem dX8_token_31 : decode cX8_token 31 = .ok (.aaload, 1) := by decide +kernel
theorem dX8_token_32 : decode cX8_token 32 = .ok (.iload_n 2, 1) := by decide +kernel
theorem dX8_token_33 : decode cX8_token 33 = .ok (.invokevirtual 166, 3) := by decide +kernel
theorem dX8_token_36 : decode cX8_token 36 = .ok (.invokestatic 169, 3) := by decide +kernel
theorem dX8_token_39 : decode cX8_token 39 = .ok (.ireturn, 1) := by decide +kernel
theorem dX8_times_0 : decode cX8_times 0 = .ok (.iload_n 1, 1) := by decide +kernel
theorem dX8_times_1 : decode cX8_times 1 = .ok (.invokestatic 145, 3) := by decide +kernel
theorem dX8_times_4 : decode cX8_times 4 = .ok (.ifCond .eq 17, 3) := by decide +kernel
theorem dX8_times_7 : decode cX8_times 7 = .ok (.iload_n 2, 1) := by decide +kernel
theorem dX8_times_8 : decode cX8_times 8 = .ok (.invokestatic 145, 3) := by decide +kernel
theorem dX8_times_11 : decode cX8_times 11 = .ok (.ifCond .eq 10, 3) := by decide +kernel
theorem dX8_times_14 : decode cX8_times 14 = .ok (.iload_n 3, 1) := by decide +kernel
theorem dX8_times_15 : decode cX8_times 15 = .ok (.invokestatic 145, 3) := by decide +kernel
theorem dX8_times_18 : decode cX8_times 18 = .ok (.ifCond .ne 5, 3) := by decide +kernel
theorem dX8_times_21 : decode cX8_times 21 = .ok (.iconst (-1), 1) := by decide +kernel
theorem dX8_times_22 : decode cX8_times 22 = .ok (.ireturn, 1) := by decide +kernel
theorem dX8_times_23 : decode cX8_times 23 = .ok (.aload_n 0, 1) := by decide +kernel
theorem dX8_times_24 : decode cX8_times 24 = .ok (.aload_n 0, 1) := by decide +kernel
theorem dX8_times_25 : decode cX8_times 25 = .ok (.getfield 17, 3) := by decide +kernel
theorem dX8_times_28 : decode cX8_times 28 = .ok (.iload_n 1, 1) := by decide +kernel
theorem dX8_times_29 : decode cX8_times 29 = .ok (.aaload, 1) := by decide +kernel
theorem dX8_times_30 : decode cX8_times 30 = .ok (.aload_n 0, 1) := by decide +kernel
theorem dX8_times_31 : decode cX8_times 31 = .ok (.getfield 17, 3) := by decide +kernel
theorem dX8_times_34 : decode cX8_times 34 = .ok (.iload_n 2, 1) := by decide +kernel
theorem dX8_times_35 : decode cX8_times 35 = .ok (.aaload, 1) := by decide +kernel
theorem dX8_times_36 : decode cX8_times 36 = .ok (.iload_n 3, 1) := by decide +kernel
theorem dX8_times_37 : decode cX8_times 37 = .ok (.invokevirtual 159, 3) := by decide +kernel
theorem dX8_times_40 : decode cX8_times 40 = .ok (.ireturn, 1) := by decide +kernel
theorem dX8_turn_0 : decode cX8_turn 0 = .ok (.iload_n 1, 1) := by decide +kernel
theorem dX8_turn_1 : decode cX8_turn 1 = .ok (.invokestatic 145, 3) := by decide +kernel
theorem dX8_turn_4 : decode cX8_turn 4 = .ok (.ifCond .eq 10, 3) := by decide +kernel
theorem dX8_turn_7 : decode cX8_turn 7 = .ok (.iload_n 2, 1) := by decide +kernel
theorem dX8_turn_8 : decode cX8_turn 8 = .ok (.invokestatic 145, 3) := by decide +kernel
theorem dX8_turn_11 : decode cX8_turn 11 = .ok (.ifCond .ne 5, 3) := by decide +kernel
theorem dX8_turn_14 : decode cX8_turn 14 = .ok (.iconst (-1), 1) := by decide +kernel
theorem dX8_turn_15 : decode cX8_turn 15 = .ok (.ireturn, 1) := by decide +kernel
theorem dX8_turn_16 : decode cX8_turn 16 = .ok (.aload_n 0, 1) := by decide +kernel
theorem dX8_turn_17 : decode cX8_turn 17 = .ok (.aload_n 0, 1) := by decide +kernel
theorem dX8_turn_18 : decode cX8_turn 18 = .ok (.getfield 17, 3) := by decide +kernel
theorem dX8_turn_21 : decode cX8_turn 21 = .ok (.iload_n 1, 1) := by decide +kernel
theorem dX8_turn_22 : decode cX8_turn 22 = .ok (.aaload, 1) := by decide +kernel
theorem dX8_turn_23 : decode cX8_turn 23 = .ok (.invokevirtual 172, 3) := by decide +kernel
theorem dX8_turn_26 : decode cX8_turn 26 = .ok (.ifCond .ne 6, 3) := by decide +kernel
theorem dX8_turn_29 : decode cX8_turn 29 = .ok (.bipush (-6), 2) := by decide +kernel
theorem dX8_turn_31 : decode cX8_turn 31 = .ok (.ireturn, 1) := by decide +kernel
theorem dX8_turn_32 : decode cX8_turn 32 = .ok (.aload_n 0, 1) := by decide +kernel
theorem dX8_turn_33 : decode cX8_turn 33 = .ok (.getfield 26, 3) := by decide +kernel
theorem dX8_turn_36 : decode cX8_turn 36 = .ok (.invokevirtual 95, 3) := by decide +kernel
theorem dX8_turn_39 : decode cX8_turn 39 = .ok (.aload_n 0, 1) := by decide +kernel
theorem dX8_turn_40 : decode cX8_turn 40 = .ok (.getfield 17, 3) := by decide +kernel
theorem dX8_turn_43 : decode cX8_turn 43 = .ok (.iload_n 1, 1) := by decide +kernel
theorem dX8_turn_44 : decode cX8_turn 44 = .ok (.aaload, 1) := by decide +kernel
theorem dX8_turn_45 : decode cX8_turn 45 = .ok (.getfield 163, 3) := by decide +kernel
theorem dX8_turn_48 : decode cX8_turn 48 = .ok (.iconst 1, 1) := by decide +kernel
theorem dX8_turn_49 : decode cX8_turn 49 = .ok (.isub, 1) := by decide +kernel
theorem dX8_turn_50 : decode cX8_turn 50 = .ok (.istore_n 3, 1) := by decide +kernel
theorem dX8_turn_51 : decode cX8_turn 51 = .ok (.iload_n 3, 1) := by decide +kernel
theorem dX8_turn_52 : decode cX8_turn 52 = .ok (.ifCond .lt 29, 3) := by decide +kernel
theorem dX8_turn_55 : decode cX8_turn 55 = .ok (.aload_n 0, 1) := by decide +kernel
theorem dX8_turn_56 : decode cX8_turn 56 = .ok (.getfield 26, 3) := by decide +kernel
theorem dX8_turn_59 : decode cX8_turn 59 = .ok (.aload_n 0, 1) := by decide +kernel
theorem dX8_turn_60 : decode cX8_turn 60 = .ok (.getfield 17, 3) := by decide +kernel
theorem dX8_turn_63 : decode cX8_turn 63 = .ok (.iload_n 1, 1) := by decide +kernel
theorem dX8_turn_64 : decode cX8_turn 64 = .ok (.aaload, 1) := by decide +kernel
theorem dX8_turn_65 : decode cX8_turn 65 = .ok (.iload_n 3, 1) := by decide +kernel
theorem dX8_turn_66 : decode cX8_turn 66 = .ok (.invokevirtual 166, 3) := by decide +kernel
theorem dX8_turn_69 : decode cX8_turn 69 = .ok (.iconst 1, 1) := by decide +kernel
theorem dX8_turn_70 : decode cX8_turn 70 = .ok (.ixor, 1) := by decide +kernel
theorem dX8_turn_71 : decode cX8_turn 71 = .ok (.invokevirtual 156, 3) := by decide +kernel
theorem dX8_turn_74 : decode cX8_turn 74 = .ok (.pop, 1) := by decide +kernel
theorem dX8_turn_75 : decode cX8_turn 75 = .ok (.iinc 3 (-1), 3) := by decide +kernel
theorem dX8_turn_78 : decode cX8_turn 78 = .ok (.goto (-27), 3) := by decide +kernel
theorem dX8_turn_81 : decode cX8_turn 81 = .ok (.aload_n 0, 1) := by decide +kernel
theorem dX8_turn_82 : decode cX8_turn 82 = .ok (.aload_n 0, 1) := by decide +kernel
theorem dX8_turn_83 : decode cX8_turn 83 = .ok (.getfield 26, 3) := by decide +kernel
theorem dX8_turn_86 : decode cX8_turn 86 = .ok (.iload_n 2, 1) := by decide +kernel
theorem dX8_turn_87 : decode cX8_turn 87 = .ok (.invokevirtual 175, 3) := by decide +kernel
theorem dX8_turn_90 : decode cX8_turn 90 = .ok (.ireturn, 1) := by decide +kernel
theorem dX8_act_0 : decode cX8_act 0 = .ok (.aload_n 0, 1) := by decide +kernel
theorem dX8_act_1 : decode cX8_act 1 = .ok (.getfield 33, 3) := by decide +kernel
theorem dX8_act_4 : decode cX8_act 4 = .ok (.iload_n 2, 1) := by decide +kernel
theorem dX8_act_5 : decode cX8_act 5 = .ok (.invokevirtual 179, 3) := by decide +kernel
theorem dX8_act_8 : decode cX8_act 8 = .ok (.istore_n 3, 1) := by decide +kernel
theorem dX8_act_9 : decode cX8_act 9 = .ok (.iload_n 1, 1) := by decide +kernel
theorem dX8_act_10 : decode cX8_act 10 = .ok (.invokestatic 145, 3) := by decide +kernel
theorem dX8_act_13 : decode cX8_act 13 = .ok (.ifCond .eq 7, 3) := by decide +kernel
theorem dX8_act_16 : decode cX8_act 16 = .ok (.iload_n 3, 1) := by decide +kernel
theorem dX8_act_17 : decode cX8_act 17 = .ok (.ifCond .ge 5, 3) := by decide +kernel
theorem dX8_act_20 : decode cX8_act 20 = .ok (.iconst (-1), 1) := by decide +kernel
theorem dX8_act_21 : decode cX8_act 21 = .ok (.ireturn, 1) := by decide +kernel
theorem dX8_act_22 : decode cX8_act 22 = .ok (.aload_n 0, 1) := by decide +kernel
theorem dX8_act_23 : decode cX8_act 23 = .ok (.getfield 33, 3) := by decide +kernel
theorem dX8_act_26 : decode cX8_act 26 = .ok (.getfield 139, 3) := by decide +kernel
theorem dX8_act_29 : decode cX8_act 29 = .ok (.ifCond .ne 6, 3) := by decide +kernel
theorem dX8_act_32 : decode cX8_act 32 = .ok (.bipush (-5), 2) := by decide +kernel
theorem dX8_act_34 : decode cX8_act 34 = .ok (.ireturn, 1) := by decide +kernel
theorem dX8_act_35 : decode cX8_act 35 = .ok (.aload_n 0, 1) := by decide +kernel
theorem dX8_act_36 : decode cX8_act 36 = .ok (.getfield 26, 3) := by decide +kernel
theorem dX8_act_39 : decode cX8_act 39 = .ok (.aload_n 0, 1) := by decide +kernel
theorem dX8_act_40 : decode cX8_act 40 = .ok (.getfield 17, 3) := by decide +kernel
theorem dX8_act_43 : decode cX8_act 43 = .ok (.iload_n 1, 1) := by decide +kernel
theorem dX8_act_44 : decode cX8_act 44 = .ok (.aaload, 1) := by decide +kernel
theorem dX8_act_45 : decode cX8_act 45 = .ok (.invokevirtual 182, 3) := by decide +kernel
theorem dX8_act_48 : decode cX8_act 48 = .ok (.aload_n 0, 1) := by decide +kernel
theorem dX8_act_49 : decode cX8_act 49 = .ok (.aload_n 0, 1) := by decide +kernel
theorem dX8_act_50 : decode cX8_act 50 = .ok (.getfield 26, 3) := by decide +kernel
theorem dX8_act_53 : decode cX8_act 53 = .ok (.iload_n 2, 1) := by decide +kernel
theorem dX8_act_54 : decode cX8_act 54 = .ok (.iload_n 3, 1) := by decide +kernel
theorem dX8_act_55 : decode cX8_act 55 = .ok (.invokevirtual 186, 3) := by decide +kernel
theorem dX8_act_58 : decode cX8_act 58 = .ok (.ireturn, 1) := by decide +kernel
theorem dX8_part_0 : decode cX8_part 0 = .ok (.aload_n 0, 1) := by decide +kernel
theorem dX8_part_1 : decode cX8_part 1 = .ok (.getfield 33, 3) := by decide +kernel
theorem dX8_part_4 : decode cX8_part 4 = .ok (.iload_n 2, 1) := by decide +kernel
theorem dX8_part_5 : decode cX8_part 5 = .ok (.invokevirtual 179, 3) := by decide +kernel
theorem dX8_part_8 : decode cX8_part 8 = .ok (.istore 4, 2) := by decide +kernel
theorem dX8_part_10 : decode cX8_part 10 = .ok (.iload_n 1, 1) := by decide +kernel
theorem dX8_part_11 : decode cX8_part 11 = .ok (.invokestatic 145, 3) := by decide +kernel
theorem dX8_part_14 : decode cX8_part 14 = .ok (.ifCond .eq 15, 3) := by decide +kernel
theorem dX8_part_17 : decode cX8_part 17 = .ok (.iload 4, 2) := by decide +kernel
theorem dX8_part_19 : decode cX8_part 19 = .ok (.ifCond .lt 10, 3) := by decide +kernel
theorem dX8_part_22 : decode cX8_part 22 = .ok (.iload_n 3, 1) := by decide +kernel
theorem dX8_part_23 : decode cX8_part 23 = .ok (.invokestatic 145, 3) := by decide +kernel
theorem dX8_part_26 : decode cX8_part 26 = .ok (.ifCond .ne 5, 3) := by decide +kernel
theorem dX8_part_29 : decode cX8_part 29 = .ok (.iconst (-1), 1) := by decide +kernel
theorem dX8_part_30 : decode cX8_part 30 = .ok (.ireturn, 1) := by decide +kernel
theorem dX8_part_31 : decode cX8_part 31 = .ok (.aload_n 0, 1) := by decide +kernel
theorem dX8_part_32 : decode cX8_part 32 = .ok (.getfield 33, 3) := by decide +kernel
theorem dX8_part_35 : decode cX8_part 35 = .ok (.getfield 139, 3) := by decide +kernel
theorem dX8_part_38 : decode cX8_part 38 = .ok (.ifCond .ne 6, 3) := by decide +kernel
theorem dX8_part_41 : decode cX8_part 41 = .ok (.bipush (-5), 2) := by decide +kernel
theorem dX8_part_43 : decode cX8_part 43 = .ok (.ireturn, 1) := by decide +kernel
theorem dX8_part_44 : decode cX8_part 44 = .ok (.aload_n 0, 1) := by decide +kernel
theorem dX8_part_45 : decode cX8_part 45 = .ok (.getfield 26, 3) := by decide +kernel
theorem dX8_part_48 : decode cX8_part 48 = .ok (.aload_n 0, 1) := by decide +kernel
theorem dX8_part_49 : decode cX8_part 49 = .ok (.getfield 17, 3) := by decide +kernel
theorem dX8_part_52 : decode cX8_part 52 = .ok (.iload_n 1, 1) := by decide +kernel
theorem dX8_part_53 : decode cX8_part 53 = .ok (.aaload, 1) := by decide +kernel
theorem dX8_part_54 : decode cX8_part 54 = .ok (.invokevirtual 182, 3) := by decide +kernel
theorem dX8_part_57 : decode cX8_part 57 = .ok (.aload_n 0, 1) := by decide +kernel
theorem dX8_part_58 : decode cX8_part 58 = .ok (.aload_n 0, 1) := by decide +kernel
theorem dX8_part_59 : decode cX8_part 59 = .ok (.getfield 26, 3) := by decide +kernel
theorem dX8_part_62 : decode cX8_part 62 = .ok (.iload_n 2, 1) := by decide +kernel
theorem dX8_part_63 : decode cX8_part 63 = .ok (.iload 4, 2) := by decide +kernel
theorem dX8_part_65 : decode cX8_part 65 = .ok (.invokevirtual 186, 3) := by decide +kernel
theorem dX8_part_68 : decode cX8_part 68 = .ok (.pop, 1) := by decide +kernel
theorem dX8_part_69 : decode cX8_part 69 = .ok (.aload_n 0, 1) := by decide +kernel
theorem dX8_part_70 : decode cX8_part 70 = .ok (.aload_n 0, 1) := by decide +kernel
theorem dX8_part_71 : decode cX8_part 71 = .ok (.getfield 26, 3) := by decide +kernel
theorem dX8_part_74 : decode cX8_part 74 = .ok (.iload_n 3, 1) := by decide +kernel
theorem dX8_part_75 : decode cX8_part 75 = .ok (.invokevirtual 175, 3) := by decide +kernel
theorem dX8_part_78 : decode cX8_part 78 = .ok (.ireturn, 1) := by decide +kernel
theorem dX8_same_0 : decode cX8_same 0 = .ok (.aload_n 0, 1) := by decide +kernel
theorem dX8_same_1 : decode cX8_same 1 = .ok (.iload_n 1, 1) := by decide +kernel
theorem dX8_same_2 : decode cX8_same 2 = .ok (.iload_n 2, 1) := by decide +kernel
theorem dX8_same_3 : decode cX8_same 3 = .ok (.invokevirtual 190, 3) := by decide +kernel
theorem dX8_same_6 : decode cX8_same 6 = .ok (.istore_n 3, 1) := by decide +kernel
theorem dX8_same_7 : decode cX8_same 7 = .ok (.iload_n 3, 1) := by decide +kernel
theorem dX8_same_8 : decode cX8_same 8 = .ok (.ifCond .ge 5, 3) := by decide +kernel
theorem dX8_same_11 : decode cX8_same 11 = .ok (.iload_n 3, 1) := by decide +kernel
theorem dX8_same_12 : decode cX8_same 12 = .ok (.ireturn, 1) := by decide +kernel
theorem dX8_same_13 : decode cX8_same 13 = .ok (.aload_n 0, 1) := by decide +kernel
theorem dX8_same_14 : decode cX8_same 14 = .ok (.getfield 54, 3) := by decide +kernel
theorem dX8_same_17 : decode cX8_same 17 = .ok (.invokevirtual 194, 3) := by decide +kernel
theorem dX8_same_20 : decode cX8_same 20 = .ok (.aload_n 0, 1) := by decide +kernel
theorem dX8_same_21 : decode cX8_same 21 = .ok (.getfield 54, 3) := by decide +kernel
theorem dX8_same_24 : decode cX8_same 24 = .ok (.aload_n 0, 1) := by decide +kernel
theorem dX8_same_25 : decode cX8_same 25 = .ok (.getfield 54, 3) := by decide +kernel
theorem dX8_same_28 : decode cX8_same 28 = .ok (.aload_n 0, 1) := by decide +kernel
theorem dX8_same_29 : decode cX8_same 29 = .ok (.getfield 17, 3) := by decide +kernel
theorem dX8_same_32 : decode cX8_same 32 = .ok (.iload_n 1, 1) := by decide +kernel
theorem dX8_same_33 : decode cX8_same 33 = .ok (.aaload, 1) := by decide +kernel
theorem dX8_same_34 : decode cX8_same 34 = .ok (.invokevirtual 197, 3) := by decide +kernel
theorem dX8_same_37 : decode cX8_same 37 = .ok (.aload_n 0, 1) := by decide +kernel
theorem dX8_same_38 : decode cX8_same 38 = .ok (.getfield 54, 3) := by decide +kernel
theorem dX8_same_41 : decode cX8_same 41 = .ok (.aload_n 0, 1) := by decide +kernel
theorem dX8_same_42 : decode cX8_same 42 = .ok (.getfield 17, 3) := by decide +kernel
theorem dX8_same_45 : decode cX8_same 45 = .ok (.iload_n 2, 1) := by decide +kernel
theorem dX8_same_46 : decode cX8_same 46 = .ok (.aaload, 1) := by decide +kernel
theorem dX8_same_47 : decode cX8_same 47 = .ok (.invokevirtual 197, 3) := by decide +kernel
theorem dX8_same_50 : decode cX8_same 50 = .ok (.invokevirtual 201, 3) := by decide +kernel
theorem dX8_same_53 : decode cX8_same 53 = .ok (.ifCond .eq 7, 3) := by decide +kernel
theorem dX8_same_56 : decode cX8_same 56 = .ok (.iconst 1, 1) := by decide +kernel
theorem dX8_same_57 : decode cX8_same 57 = .ok (.goto 4, 3) := by decide +kernel
theorem dX8_same_60 : decode cX8_same 60 = .ok (.iconst 0, 1) := by decide +kernel
theorem dX8_same_61 : decode cX8_same 61 = .ok (.ireturn, 1) := by decide +kernel
theorem dX8_apart_0 : decode cX8_apart 0 = .ok (.aload_n 0, 1) := by decide +kernel
theorem dX8_apart_1 : decode cX8_apart 1 = .ok (.iload_n 1, 1) := by decide +kernel
theorem dX8_apart_2 : decode cX8_apart 2 = .ok (.iload_n 2, 1) := by decide +kernel
theorem dX8_apart_3 : decode cX8_apart 3 = .ok (.invokevirtual 190, 3) := by decide +kernel
theorem dX8_apart_6 : decode cX8_apart 6 = .ok (.istore_n 3, 1) := by decide +kernel
theorem dX8_apart_7 : decode cX8_apart 7 = .ok (.iload_n 3, 1) := by decide +kernel
theorem dX8_apart_8 : decode cX8_apart 8 = .ok (.ifCond .ge 5, 3) := by decide +kernel
theorem dX8_apart_11 : decode cX8_apart 11 = .ok (.iload_n 3, 1) := by decide +kernel
theorem dX8_apart_12 : decode cX8_apart 12 = .ok (.ireturn, 1) := by decide +kernel
theorem dX8_apart_13 : decode cX8_apart 13 = .ok (.aload_n 0, 1) := by decide +kernel
theorem dX8_apart_14 : decode cX8_apart 14 = .ok (.getfield 54, 3) := by decide +kernel
theorem dX8_apart_17 : decode cX8_apart 17 = .ok (.invokevirtual 194, 3) := by decide +kernel
theorem dX8_apart_20 : decode cX8_apart 20 = .ok (.aload_n 0, 1) := by decide +kernel
theorem dX8_apart_21 : decode cX8_apart 21 = .ok (.getfield 54, 3) := by decide +kernel
theorem dX8_apart_24 : decode cX8_apart 24 = .ok (.aload_n 0, 1) := by decide +kernel
theorem dX8_apart_25 : decode cX8_apart 25 = .ok (.getfield 54, 3) := by decide +kernel
theorem dX8_apart_28 : decode cX8_apart 28 = .ok (.aload_n 0, 1) := by decide +kernel
theorem dX8_apart_29 : decode cX8_apart 29 = .ok (.getfield 17, 3) := by decide +kernel
theorem dX8_apart_32 : decode cX8_apart 32 = .ok (.iload_n 1, 1) := by decide +kernel
theorem dX8_apart_33 : decode cX8_apart 33 = .ok (.aaload, 1) := by decide +kernel
theorem dX8_apart_34 : decode cX8_apart 34 = .ok (.invokevirtual 197, 3) := by decide +kernel
theorem dX8_apart_37 : decode cX8_apart 37 = .ok (.aload_n 0, 1) := by decide +kernel
theorem dX8_apart_38 : decode cX8_apart 38 = .ok (.getfield 54, 3) := by decide +kernel
theorem dX8_apart_41 : decode cX8_apart 41 = .ok (.aload_n 0, 1) := by decide +kernel
theorem dX8_apart_42 : decode cX8_apart 42 = .ok (.getfield 17, 3) := by decide +kernel
theorem dX8_apart_45 : decode cX8_apart 45 = .ok (.iload_n 2, 1) := by decide +kernel
theorem dX8_apart_46 : decode cX8_apart 46 = .ok (.aaload, 1) := by decide +kernel
theorem dX8_apart_47 : decode cX8_apart 47 = .ok (.invokevirtual 197, 3) := by decide +kernel
theorem dX8_apart_50 : decode cX8_apart 50 = .ok (.invokevirtual 205, 3) := by decide +kernel
theorem dX8_apart_53 : decode cX8_apart 53 = .ok (.ireturn, 1) := by decide +kernel
theorem dX8_heap_0 : decode cX8_heap 0 = .ok (.aload_n 0, 1) := by decide +kernel
theorem dX8_heap_1 : decode cX8_heap 1 = .ok (.iload_n 1, 1) := by decide +kernel
theorem dX8_heap_2 : decode cX8_heap 2 = .ok (.iload_n 1, 1) := by decide +kernel
theorem dX8_heap_3 : decode cX8_heap 3 = .ok (.invokevirtual 190, 3) := by decide +kernel
theorem dX8_heap_6 : decode cX8_heap 6 = .ok (.istore_n 2, 1) := by decide +kernel
theorem dX8_heap_7 : decode cX8_heap 7 = .ok (.iload_n 2, 1) := by decide +kernel
theorem dX8_heap_8 : decode cX8_heap 8 = .ok (.ifCond .ge 7, 3) := by decide +kernel
theorem dX8_heap_11 : decode cX8_heap 11 = .ok (.iload_n 2, 1) := by decide +kernel
theorem dX8_heap_12 : decode cX8_heap 12 = .ok (.goto 13, 3) := by decide +kernel
theorem dX8_heap_15 : decode cX8_heap 15 = .ok (.aload_n 0, 1) := by decide +kernel
theorem dX8_heap_16 : decode cX8_heap 16 = .ok (.getfield 54, 3) := by decide +kernel
theorem dX8_heap_19 : decode cX8_heap 19 = .ok (.getfield 208, 3) := by decide +kernel
theorem dX8_heap_22 : decode cX8_heap 22 = .ok (.getfield 212, 3) := by decide +kernel
theorem dX8_heap_25 : decode cX8_heap 25 = .ok (.ireturn, 1) := by decide +kernel
theorem dX8_least_0 : decode cX8_least 0 = .ok (.aload_n 0, 1) := by decide +kernel
theorem dX8_least_1 : decode cX8_least 1 = .ok (.iload_n 1, 1) := by decide +kernel
theorem dX8_least_2 : decode cX8_least 2 = .ok (.iload_n 1, 1) := by decide +kernel
theorem dX8_least_3 : decode cX8_least 3 = .ok (.invokevirtual 190, 3) := by decide +kernel
theorem dX8_least_6 : decode cX8_least 6 = .ok (.istore_n 2, 1) := by decide +kernel
theorem dX8_least_7 : decode cX8_least 7 = .ok (.iload_n 2, 1) := by decide +kernel
theorem dX8_least_8 : decode cX8_least 8 = .ok (.ifCond .ge 5, 3) := by decide +kernel
theorem dX8_least_11 : decode cX8_least 11 = .ok (.iload_n 2, 1) := by decide +kernel
theorem dX8_least_12 : decode cX8_least 12 = .ok (.ireturn, 1) := by decide +kernel
theorem dX8_least_13 : decode cX8_least 13 = .ok (.aload_n 0, 1) := by decide +kernel
theorem dX8_least_14 : decode cX8_least 14 = .ok (.getfield 54, 3) := by decide +kernel
theorem dX8_least_17 : decode cX8_least 17 = .ok (.invokevirtual 194, 3) := by decide +kernel
theorem dX8_least_20 : decode cX8_least 20 = .ok (.aload_n 0, 1) := by decide +kernel
theorem dX8_least_21 : decode cX8_least 21 = .ok (.getfield 54, 3) := by decide +kernel
theorem dX8_least_24 : decode cX8_least 24 = .ok (.getfield 217, 3) := by decide +kernel
theorem dX8_least_27 : decode cX8_least 27 = .ok (.ireturn, 1) := by decide +kernel
theorem dX8_order_0 : decode cX8_order 0 = .ok (.iload_n 1, 1) := by decide +kernel
theorem dX8_order_1 : decode cX8_order 1 = .ok (.invokestatic 145, 3) := by decide +kernel
theorem dX8_order_4 : decode cX8_order 4 = .ok (.ifCond .eq 17, 3) := by decide +kernel
theorem dX8_order_7 : decode cX8_order 7 = .ok (.aload_n 0, 1) := by decide +kernel
theorem dX8_order_8 : decode cX8_order 8 = .ok (.getfield 33, 3) := by decide +kernel
theorem dX8_order_11 : decode cX8_order 11 = .ok (.iload_n 2, 1) := by decide +kernel
theorem dX8_order_12 : decode cX8_order 12 = .ok (.sipush 256, 3) := by decide +kernel
theorem dX8_order_15 : decode cX8_order 15 = .ok (.invokevirtual 220, 3) := by decide +kernel
theorem dX8_order_18 : decode cX8_order 18 = .ok (.ifCond .ne 5, 3) := by decide +kernel
theorem dX8_order_21 : decode cX8_order 21 = .ok (.iconst (-1), 1) := by decide +kernel
theorem dX8_order_22 : decode cX8_order 22 = .ok (.ireturn, 1) := by decide +kernel
theorem dX8_order_23 : decode cX8_order 23 = .ok (.aload_n 0, 1) := by decide +kernel
theorem dX8_order_24 : decode cX8_order 24 = .ok (.getfield 33, 3) := by decide +kernel
theorem dX8_order_27 : decode cX8_order 27 = .ok (.getfield 139, 3) := by decide +kernel
theorem dX8_order_30 : decode cX8_order 30 = .ok (.ifCond .ne 6, 3) := by decide +kernel
theorem dX8_order_33 : decode cX8_order 33 = .ok (.bipush (-5), 2) := by decide +kernel
theorem dX8_order_35 : decode cX8_order 35 = .ok (.ireturn, 1) := by decide +kernel
theorem dX8_order_36 : decode cX8_order 36 = .ok (.aload_n 0, 1) := by decide +kernel
theorem dX8_order_37 : decode cX8_order 37 = .ok (.aload_n 0, 1) := by decide +kernel
theorem dX8_order_38 : decode cX8_order 38 = .ok (.getfield 17, 3) := by decide +kernel
theorem dX8_order_41 : decode cX8_order 41 = .ok (.iload_n 1, 1) := by decide +kernel
theorem dX8_order_42 : decode cX8_order 42 = .ok (.aaload, 1) := by decide +kernel
theorem dX8_order_43 : decode cX8_order 43 = .ok (.invokevirtual 172, 3) := by decide +kernel
theorem dX8_order_46 : decode cX8_order 46 = .ok (.ifCond .ne 6, 3) := by decide +kernel
theorem dX8_order_49 : decode cX8_order 49 = .ok (.bipush (-6), 2) := by decide +kernel
theorem dX8_order_51 : decode cX8_order 51 = .ok (.ireturn, 1) := by decide +kernel
theorem dX8_order_52 : decode cX8_order 52 = .ok (.aload_n 0, 1) := by decide +kernel
theorem dX8_order_53 : decode cX8_order 53 = .ok (.getfield 40, 3) := by decide +kernel
theorem dX8_order_56 : decode cX8_order 56 = .ok (.aload_n 0, 1) := by decide +kernel
theorem dX8_order_57 : decode cX8_order 57 = .ok (.getfield 33, 3) := by decide +kernel
theorem dX8_order_60 : decode cX8_order 60 = .ok (.iload_n 2, 1) := by decide +kernel
theorem dX8_order_61 : decode cX8_order 61 = .ok (.invokevirtual 223, 3) := by decide +kernel
theorem dX8_order_64 : decode cX8_order 64 = .ok (.aload_n 0, 1) := by decide +kernel
theorem dX8_order_65 : decode cX8_order 65 = .ok (.getfield 40, 3) := by decide +kernel
theorem dX8_order_68 : decode cX8_order 68 = .ok (.aload_n 0, 1) := by decide +kernel
theorem dX8_order_69 : decode cX8_order 69 = .ok (.getfield 17, 3) := by decide +kernel
theorem dX8_order_72 : decode cX8_order 72 = .ok (.iload_n 1, 1) := by decide +kernel
theorem dX8_order_73 : decode cX8_order 73 = .ok (.aaload, 1) := by decide +kernel
theorem dX8_order_74 : decode cX8_order 74 = .ok (.iload_n 2, 1) := by decide +kernel
theorem dX8_order_75 : decode cX8_order 75 = .ok (.invokevirtual 227, 3) := by decide +kernel
theorem dX8_order_78 : decode cX8_order 78 = .ok (.ireturn, 1) := by decide +kernel
theorem dX8_orbits_0 : decode cX8_orbits 0 = .ok (.aload_n 0, 1) := by decide +kernel
theorem dX8_orbits_1 : decode cX8_orbits 1 = .ok (.getfield 33, 3) := by decide +kernel
theorem dX8_orbits_4 : decode cX8_orbits 4 = .ok (.iload_n 1, 1) := by decide +kernel
theorem dX8_orbits_5 : decode cX8_orbits 5 = .ok (.sipush 256, 3) := by decide +kernel
theorem dX8_orbits_8 : decode cX8_orbits 8 = .ok (.invokevirtual 220, 3) := by decide +kernel
theorem dX8_orbits_11 : decode cX8_orbits 11 = .ok (.ifCond .ne 5, 3) := by decide +kernel
theorem dX8_orbits_14 : decode cX8_orbits 14 = .ok (.iconst (-1), 1) := by decide +kernel
theorem dX8_orbits_15 : decode cX8_orbits 15 = .ok (.ireturn, 1) := by decide +kernel
theorem dX8_orbits_16 : decode cX8_orbits 16 = .ok (.aload_n 0, 1) := by decide +kernel
theorem dX8_orbits_17 : decode cX8_orbits 17 = .ok (.getfield 33, 3) := by decide +kernel
theorem dX8_orbits_20 : decode cX8_orbits 20 = .ok (.getfield 139, 3) := by decide +kernel
theorem dX8_orbits_23 : decode cX8_orbits 23 = .ok (.ifCond .ne 6, 3) := by decide +kernel
theorem dX8_orbits_26 : decode cX8_orbits 26 = .ok (.bipush (-5), 2) := by decide +kernel
theorem dX8_orbits_28 : decode cX8_orbits 28 = .ok (.ireturn, 1) := by decide +kernel
theorem dX8_orbits_29 : decode cX8_orbits 29 = .ok (.aload_n 0, 1) := by decide +kernel
theorem dX8_orbits_30 : decode cX8_orbits 30 = .ok (.getfield 40, 3) := by decide +kernel
theorem dX8_orbits_33 : decode cX8_orbits 33 = .ok (.aload_n 0, 1) := by decide +kernel
theorem dX8_orbits_34 : decode cX8_orbits 34 = .ok (.getfield 33, 3) := by decide +kernel
theorem dX8_orbits_37 : decode cX8_orbits 37 = .ok (.iload_n 1, 1) := by decide +kernel
theorem dX8_orbits_38 : decode cX8_orbits 38 = .ok (.invokevirtual 223, 3) := by decide +kernel
theorem dX8_orbits_41 : decode cX8_orbits 41 = .ok (.aload_n 0, 1) := by decide +kernel
theorem dX8_orbits_42 : decode cX8_orbits 42 = .ok (.getfield 40, 3) := by decide +kernel
theorem dX8_orbits_45 : decode cX8_orbits 45 = .ok (.aload_n 0, 1) := by decide +kernel
theorem dX8_orbits_46 : decode cX8_orbits 46 = .ok (.getfield 33, 3) := by decide +kernel
theorem dX8_orbits_49 : decode cX8_orbits 49 = .ok (.iload_n 1, 1) := by decide +kernel
theorem dX8_orbits_50 : decode cX8_orbits 50 = .ok (.invokevirtual 230, 3) := by decide +kernel
theorem dX8_orbits_53 : decode cX8_orbits 53 = .ok (.ireturn, 1) := by decide +kernel
theorem dX8_orbit_0 : decode cX8_orbit 0 = .ok (.aload_n 0, 1) := by decide +kernel
theorem dX8_orbit_1 : decode cX8_orbit 1 = .ok (.iload_n 1, 1) := by decide +kernel
theorem dX8_orbit_2 : decode cX8_orbit 2 = .ok (.invokevirtual 234, 3) := by decide +kernel
theorem dX8_orbit_5 : decode cX8_orbit 5 = .ok (.istore_n 2, 1) := by decide +kernel
theorem dX8_orbit_6 : decode cX8_orbit 6 = .ok (.iload_n 2, 1) := by decide +kernel
theorem dX8_orbit_7 : decode cX8_orbit 7 = .ok (.ifCond .ge 5, 3) := by decide +kernel
theorem dX8_orbit_10 : decode cX8_orbit 10 = .ok (.iconst (-1), 1) := by decide +kernel
theorem dX8_orbit_11 : decode cX8_orbit 11 = .ok (.ireturn, 1) := by decide +kernel
theorem dX8_orbit_12 : decode cX8_orbit 12 = .ok (.aload_n 0, 1) := by decide +kernel
theorem dX8_orbit_13 : decode cX8_orbit 13 = .ok (.getfield 33, 3) := by decide +kernel
theorem dX8_orbit_16 : decode cX8_orbit 16 = .ok (.getfield 139, 3) := by decide +kernel
theorem dX8_orbit_19 : decode cX8_orbit 19 = .ok (.ifCond .ne 6, 3) := by decide +kernel
theorem dX8_orbit_22 : decode cX8_orbit 22 = .ok (.bipush (-5), 2) := by decide +kernel
theorem dX8_orbit_24 : decode cX8_orbit 24 = .ok (.ireturn, 1) := by decide +kernel
theorem dX8_orbit_25 : decode cX8_orbit 25 = .ok (.aload_n 0, 1) := by decide +kernel
theorem dX8_orbit_26 : decode cX8_orbit 26 = .ok (.iload_n 1, 1) := by decide +kernel
theorem dX8_orbit_27 : decode cX8_orbit 27 = .ok (.iload_n 2, 1) := by decide +kernel
theorem dX8_orbit_28 : decode cX8_orbit 28 = .ok (.invokevirtual 237, 3) := by decide +kernel
theorem dX8_orbit_31 : decode cX8_orbit 31 = .ok (.ireturn, 1) := by decide +kernel
theorem dX8_far_0 : decode cX8_far 0 = .ok (.aload_n 0, 1) := by decide +kernel
theorem dX8_far_1 : decode cX8_far 1 = .ok (.iload_n 1, 1) := by decide +kernel
theorem dX8_far_2 : decode cX8_far 2 = .ok (.invokevirtual 234, 3) := by decide +kernel
theorem dX8_far_5 : decode cX8_far 5 = .ok (.istore_n 3, 1) := by decide +kernel
theorem dX8_far_6 : decode cX8_far 6 = .ok (.iload_n 3, 1) := by decide +kernel
theorem dX8_far_7 : decode cX8_far 7 = .ok (.ifCond .lt 15, 3) := by decide +kernel
theorem dX8_far_10 : decode cX8_far 10 = .ok (.aload_n 0, 1) := by decide +kernel
theorem dX8_far_11 : decode cX8_far 11 = .ok (.getfield 33, 3) := by decide +kernel
theorem dX8_far_14 : decode cX8_far 14 = .ok (.iload_n 2, 1) := by decide +kernel
theorem dX8_far_15 : decode cX8_far 15 = .ok (.invokevirtual 179, 3) := by decide +kernel
theorem dX8_far_18 : decode cX8_far 18 = .ok (.iload_n 3, 1) := by decide +kernel
theorem dX8_far_19 : decode cX8_far 19 = .ok (.if_icmp .eq 5, 3) := by decide +kernel
theorem dX8_far_22 : decode cX8_far 22 = .ok (.iconst (-1), 1) := by decide +kernel
theorem dX8_far_23 : decode cX8_far 23 = .ok (.ireturn, 1) := by decide +kernel
theorem dX8_far_24 : decode cX8_far 24 = .ok (.aload_n 0, 1) := by decide +kernel
theorem dX8_far_25 : decode cX8_far 25 = .ok (.getfield 33, 3) := by decide +kernel
theorem dX8_far_28 : decode cX8_far 28 = .ok (.getfield 139, 3) := by decide +kernel
theorem dX8_far_31 : decode cX8_far 31 = .ok (.ifCond .ne 6, 3) := by decide +kernel
theorem dX8_far_34 : decode cX8_far 34 = .ok (.bipush (-5), 2) := by decide +kernel
theorem dX8_far_36 : decode cX8_far 36 = .ok (.ireturn, 1) := by decide +kernel
theorem dX8_far_37 : decode cX8_far 37 = .ok (.aload_n 0, 1) := by decide +kernel
theorem dX8_far_38 : decode cX8_far 38 = .ok (.iload_n 1, 1) := by decide +kernel
theorem dX8_far_39 : decode cX8_far 39 = .ok (.iload_n 3, 1) := by decide +kernel
theorem dX8_far_40 : decode cX8_far 40 = .ok (.invokevirtual 237, 3) := by decide +kernel
theorem dX8_far_43 : decode cX8_far 43 = .ok (.pop, 1) := by decide +kernel
theorem dX8_far_44 : decode cX8_far 44 = .ok (.aload_n 0, 1) := by decide +kernel
theorem dX8_far_45 : decode cX8_far 45 = .ok (.getfield 40, 3) := by decide +kernel
theorem dX8_far_48 : decode cX8_far 48 = .ok (.getfield 240, 3) := by decide +kernel
theorem dX8_far_51 : decode cX8_far 51 = .ok (.aload_n 0, 1) := by decide +kernel
theorem dX8_far_52 : decode cX8_far 52 = .ok (.getfield 33, 3) := by decide +kernel
theorem dX8_far_55 : decode cX8_far 55 = .ok (.iload_n 2, 1) := by decide +kernel
theorem dX8_far_56 : decode cX8_far 56 = .ok (.iload_n 3, 1) := by decide +kernel
theorem dX8_far_57 : decode cX8_far 57 = .ok (.invokevirtual 243, 3) := by decide +kernel
theorem dX8_far_60 : decode cX8_far 60 = .ok (.iaload, 1) := by decide +kernel
theorem dX8_far_61 : decode cX8_far 61 = .ok (.istore 4, 2) := by decide +kernel
theorem dX8_far_63 : decode cX8_far 63 = .ok (.iload 4, 2) := by decide +kernel
theorem dX8_far_65 : decode cX8_far 65 = .ok (.ifCond .ge 8, 3) := by decide +kernel
theorem dX8_far_68 : decode cX8_far 68 = .ok (.bipush (-8), 2) := by decide +kernel
theorem dX8_far_70 : decode cX8_far 70 = .ok (.goto 5, 3) := by decide +kernel
theorem dX8_far_73 : decode cX8_far 73 = .ok (.iload 4, 2) := by decide +kernel
theorem dX8_far_75 : decode cX8_far 75 = .ok (.ireturn, 1) := by decide +kernel
theorem dX8_way_0 : decode cX8_way 0 = .ok (.aload_n 0, 1) := by decide +kernel
theorem dX8_way_1 : decode cX8_way 1 = .ok (.iload_n 1, 1) := by decide +kernel
theorem dX8_way_2 : decode cX8_way 2 = .ok (.iload_n 2, 1) := by decide +kernel
theorem dX8_way_3 : decode cX8_way 3 = .ok (.invokevirtual 246, 3) := by decide +kernel
theorem dX8_way_6 : decode cX8_way 6 = .ok (.istore 4, 2) := by decide +kernel
theorem dX8_way_8 : decode cX8_way 8 = .ok (.iload_n 3, 1) := by decide +kernel
theorem dX8_way_9 : decode cX8_way 9 = .ok (.ifCond .lt 9, 3) := by decide +kernel
theorem dX8_way_12 : decode cX8_way 12 = .ok (.iload_n 3, 1) := by decide +kernel
theorem dX8_way_13 : decode cX8_way 13 = .ok (.iload 4, 2) := by decide +kernel
theorem dX8_way_15 : decode cX8_way 15 = .ok (.if_icmp .lt 5, 3) := by decide +kernel
theorem dX8_way_18 : decode cX8_way 18 = .ok (.iconst 0, 1) := by decide +kernel
theorem dX8_way_19 : decode cX8_way 19 = .ok (.ireturn, 1) := by decide +kernel
theorem dX8_way_20 : decode cX8_way 20 = .ok (.aload_n 0, 1) := by decide +kernel
theorem dX8_way_21 : decode cX8_way 21 = .ok (.getfield 33, 3) := by decide +kernel
theorem dX8_way_24 : decode cX8_way 24 = .ok (.iload_n 2, 1) := by decide +kernel
theorem dX8_way_25 : decode cX8_way 25 = .ok (.aload_n 0, 1) := by decide +kernel
theorem dX8_way_26 : decode cX8_way 26 = .ok (.getfield 33, 3) := by decide +kernel
theorem dX8_way_29 : decode cX8_way 29 = .ok (.iload_n 2, 1) := by decide +kernel
theorem dX8_way_30 : decode cX8_way 30 = .ok (.invokevirtual 179, 3) := by decide +kernel
theorem dX8_way_33 : decode cX8_way 33 = .ok (.invokevirtual 243, 3) := by decide +kernel
theorem dX8_way_36 : decode cX8_way 36 = .ok (.istore 5, 2) := by decide +kernel
theorem dX8_way_38 : decode cX8_way 38 = .ok (.aload_n 0, 1) := by decide +kernel
theorem dX8_way_39 : decode cX8_way 39 = .ok (.getfield 40, 3) := by decide +kernel
theorem dX8_way_42 : decode cX8_way 42 = .ok (.iload 5, 2) := by decide +kernel
theorem dX8_way_44 : decode cX8_way 44 = .ok (.iload 4, 2) := by decide +kernel
theorem dX8_way_46 : decode cX8_way 46 = .ok (.iload_n 3, 1) := by decide +kernel
theorem dX8_way_47 : decode cX8_way 47 = .ok (.invokevirtual 249, 3) := by decide +kernel
theorem dX8_way_50 : decode cX8_way 50 = .ok (.invokestatic 169, 3) := by decide +kernel
theorem dX8_way_53 : decode cX8_way 53 = .ok (.ireturn, 1) := by decide +kernel
theorem dX8_reach_0 : decode cX8_reach 0 = .ok (.aload_n 0, 1) := by decide +kernel
theorem dX8_reach_1 : decode cX8_reach 1 = .ok (.iload_n 1, 1) := by decide +kernel
theorem dX8_reach_2 : decode cX8_reach 2 = .ok (.invokevirtual 234, 3) := by decide +kernel
theorem dX8_reach_5 : decode cX8_reach 5 = .ok (.istore_n 2, 1) := by decide +kernel
theorem dX8_reach_6 : decode cX8_reach 6 = .ok (.iload_n 2, 1) := by decide +kernel
theorem dX8_reach_7 : decode cX8_reach 7 = .ok (.ifCond .ge 5, 3) := by decide +kernel
theorem dX8_reach_10 : decode cX8_reach 10 = .ok (.iconst (-1), 1) := by decide +kernel
theorem dX8_reach_11 : decode cX8_reach 11 = .ok (.ireturn, 1) := by decide +kernel
theorem dX8_reach_12 : decode cX8_reach 12 = .ok (.aload_n 0, 1) := by decide +kernel
theorem dX8_reach_13 : decode cX8_reach 13 = .ok (.getfield 33, 3) := by decide +kernel
theorem dX8_reach_16 : decode cX8_reach 16 = .ok (.getfield 139, 3) := by decide +kernel
theorem dX8_reach_19 : decode cX8_reach 19 = .ok (.ifCond .ne 6, 3) := by decide +kernel
theorem dX8_reach_22 : decode cX8_reach 22 = .ok (.bipush (-5), 2) := by decide +kernel
theorem dX8_reach_24 : decode cX8_reach 24 = .ok (.ireturn, 1) := by decide +kernel
theorem dX8_reach_25 : decode cX8_reach 25 = .ok (.aload_n 0, 1) := by decide +kernel
theorem dX8_reach_26 : decode cX8_reach 26 = .ok (.iload_n 1, 1) := by decide +kernel
theorem dX8_reach_27 : decode cX8_reach 27 = .ok (.iload_n 2, 1) := by decide +kernel
theorem dX8_reach_28 : decode cX8_reach 28 = .ok (.invokevirtual 237, 3) := by decide +kernel
theorem dX8_reach_31 : decode cX8_reach 31 = .ok (.istore_n 3, 1) := by decide +kernel
theorem dX8_reach_32 : decode cX8_reach 32 = .ok (.aload_n 0, 1) := by decide +kernel
theorem dX8_reach_33 : decode cX8_reach 33 = .ok (.getfield 40, 3) := by decide +kernel
theorem dX8_reach_36 : decode cX8_reach 36 = .ok (.getfield 240, 3) := by decide +kernel
theorem dX8_reach_39 : decode cX8_reach 39 = .ok (.aload_n 0, 1) := by decide +kernel
theorem dX8_reach_40 : decode cX8_reach 40 = .ok (.getfield 40, 3) := by decide +kernel
theorem dX8_reach_43 : decode cX8_reach 43 = .ok (.getfield 253, 3) := by decide +kernel
theorem dX8_reach_46 : decode cX8_reach 46 = .ok (.iload_n 3, 1) := by decide +kernel
theorem dX8_reach_47 : decode cX8_reach 47 = .ok (.iconst 1, 1) := by decide +kernel
theorem dX8_reach_48 : decode cX8_reach 48 = .ok (.isub, 1) := by decide +kernel
theorem dX8_reach_49 : decode cX8_reach 49 = .ok (.iaload, 1) := by decide +kernel
theorem dX8_reach_50 : decode cX8_reach 50 = .ok (.iaload, 1) := by decide +kernel
theorem dX8_reach_51 : decode cX8_reach 51 = .ok (.ireturn, 1) := by decide +kernel
theorem dX8_group_0 : decode cX8_group 0 = .ok (.aload_n 0, 1) := by decide +kernel
theorem dX8_group_1 : decode cX8_group 1 = .ok (.getfield 33, 3) := by decide +kernel
theorem dX8_group_4 : decode cX8_group 4 = .ok (.iload_n 1, 1) := by decide +kernel
theorem dX8_group_5 : decode cX8_group 5 = .ok (.bipush 16, 2) := by decide +kernel
theorem dX8_group_7 : decode cX8_group 7 = .ok (.invokevirtual 220, 3) := by decide +kernel
theorem dX8_group_10 : decode cX8_group 10 = .ok (.istore_n 2, 1) := by decide +kernel
theorem dX8_group_11 : decode cX8_group 11 = .ok (.iload_n 2, 1) := by decide +kernel
theorem dX8_group_12 : decode cX8_group 12 = .ok (.ifCond .ne 5, 3) := by decide +kernel
theorem dX8_group_15 : decode cX8_group 15 = .ok (.iconst (-1), 1) := by decide +kernel
theorem dX8_group_16 : decode cX8_group 16 = .ok (.ireturn, 1) := by decide +kernel
theorem dX8_group_17 : decode cX8_group 17 = .ok (.aload_n 0, 1) := by decide +kernel
theorem dX8_group_18 : decode cX8_group 18 = .ok (.getfield 33, 3) := by decide +kernel
theorem dX8_group_21 : decode cX8_group 21 = .ok (.getfield 139, 3) := by decide +kernel
theorem dX8_group_24 : decode cX8_group 24 = .ok (.ifCond .ne 6, 3) := by decide +kernel
theorem dX8_group_27 : decode cX8_group 27 = .ok (.bipush (-5), 2) := by decide +kernel
theorem dX8_group_29 : decode cX8_group 29 = .ok (.ireturn, 1) := by decide +kernel
theorem dX8_group_30 : decode cX8_group 30 = .ok (.aload_n 0, 1) := by decide +kernel
theorem dX8_group_31 : decode cX8_group 31 = .ok (.getfield 40, 3) := by decide +kernel
theorem dX8_group_34 : decode cX8_group 34 = .ok (.aload_n 0, 1) := by decide +kernel
theorem dX8_group_35 : decode cX8_group 35 = .ok (.getfield 33, 3) := by decide +kernel
theorem dX8_group_38 : decode cX8_group 38 = .ok (.iload_n 1, 1) := by decide +kernel
theorem dX8_group_39 : decode cX8_group 39 = .ok (.invokevirtual 223, 3) := by decide +kernel
theorem dX8_group_42 : decode cX8_group 42 = .ok (.aload_n 0, 1) := by decide +kernel
theorem dX8_group_43 : decode cX8_group 43 = .ok (.getfield 47, 3) := by decide +kernel
theorem dX8_group_46 : decode cX8_group 46 = .ok (.iload_n 2, 1) := by decide +kernel
theorem dX8_group_47 : decode cX8_group 47 = .ok (.invokevirtual 256, 3) := by decide +kernel
theorem dX8_group_50 : decode cX8_group 50 = .ok (.iconst 0, 1) := by decide +kernel
theorem dX8_group_51 : decode cX8_group 51 = .ok (.istore_n 3, 1) := by decide +kernel
theorem dX8_group_52 : decode cX8_group 52 = .ok (.iload_n 3, 1) := by decide +kernel
theorem dX8_group_53 : decode cX8_group 53 = .ok (.aload_n 0, 1) := by decide +kernel
theorem dX8_group_54 : decode cX8_group 54 = .ok (.getfield 33, 3) := by decide +kernel
theorem dX8_group_57 : decode cX8_group 57 = .ok (.getfield 102, 3) := by decide +kernel
theorem dX8_group_60 : decode cX8_group 60 = .ok (.if_icmp .ge 44, 3) := by decide +kernel
theorem dX8_group_63 : decode cX8_group 63 = .ok (.aload_n 0, 1) := by decide +kernel
theorem dX8_group_64 : decode cX8_group 64 = .ok (.getfield 33, 3) := by decide +kernel
theorem dX8_group_67 : decode cX8_group 67 = .ok (.iload_n 3, 1) := by decide +kernel
theorem dX8_group_68 : decode cX8_group 68 = .ok (.invokevirtual 127, 3) := by decide +kernel
theorem dX8_group_71 : decode cX8_group 71 = .ok (.ifCond .eq 27, 3) := by decide +kernel
theorem dX8_group_74 : decode cX8_group 74 = .ok (.aload_n 0, 1) := by decide +kernel
theorem dX8_group_75 : decode cX8_group 75 = .ok (.getfield 47, 3) := by decide +kernel
theorem dX8_group_78 : decode cX8_group 78 = .ok (.aload_n 0, 1) := by decide +kernel
theorem dX8_group_79 : decode cX8_group 79 = .ok (.getfield 40, 3) := by decide +kernel
theorem dX8_group_82 : decode cX8_group 82 = .ok (.iconst 2, 1) := by decide +kernel
theorem dX8_group_83 : decode cX8_group 83 = .ok (.iload_n 3, 1) := by decide +kernel
theorem dX8_group_84 : decode cX8_group 84 = .ok (.imul, 1) := by decide +kernel
theorem dX8_group_85 : decode cX8_group 85 = .ok (.iload_n 1, 1) := by decide +kernel
theorem dX8_group_86 : decode cX8_group 86 = .ok (.invokevirtual 259, 3) := by decide +kernel
theorem dX8_group_89 : decode cX8_group 89 = .ok (.invokevirtual 263, 3) := by decide +kernel
theorem dX8_group_92 : decode cX8_group 92 = .ok (.ifCond .ne 6, 3) := by decide +kernel
theorem dX8_group_95 : decode cX8_group 95 = .ok (.bipush (-7), 2) := by decide +kernel
theorem dX8_group_97 : decode cX8_group 97 = .ok (.ireturn, 1) := by decide +kernel
theorem dX8_group_98 : decode cX8_group 98 = .ok (.iinc 3 1, 3) := by decide +kernel
theorem dX8_group_101 : decode cX8_group 101 = .ok (.goto (-49), 3) := by decide +kernel
theorem dX8_group_104 : decode cX8_group 104 = .ok (.aload_n 0, 1) := by decide +kernel
theorem dX8_group_105 : decode cX8_group 105 = .ok (.getfield 47, 3) := by decide +kernel
theorem dX8_group_108 : decode cX8_group 108 = .ok (.getfield 267, 3) := by decide +kernel
theorem dX8_group_111 : decode cX8_group 111 = .ok (.getfield 212, 3) := by decide +kernel
theorem dX8_group_114 : decode cX8_group 114 = .ok (.ireturn, 1) := by decide +kernel
theorem dX8_growth_0 : decode cX8_growth 0 = .ok (.aload_n 0, 1) := by decide +kernel
theorem dX8_growth_1 : decode cX8_growth 1 = .ok (.getfield 61, 3) := by decide +kernel
theorem dX8_growth_4 : decode cX8_growth 4 = .ok (.aload_n 0, 1) := by decide +kernel
theorem dX8_growth_5 : decode cX8_growth 5 = .ok (.getfield 33, 3) := by decide +kernel
theorem dX8_growth_8 : decode cX8_growth 8 = .ok (.iload_n 1, 1) := by decide +kernel
theorem dX8_growth_9 : decode cX8_growth 9 = .ok (.invokevirtual 270, 3) := by decide +kernel
theorem dX8_growth_12 : decode cX8_growth 12 = .ok (.istore_n 2, 1) := by decide +kernel
theorem dX8_growth_13 : decode cX8_growth 13 = .ok (.iload_n 2, 1) := by decide +kernel
theorem dX8_growth_14 : decode cX8_growth 14 = .ok (.ifCond .ge 7, 3) := by decide +kernel
theorem dX8_growth_17 : decode cX8_growth 17 = .ok (.iload_n 2, 1) := by decide +kernel
theorem dX8_growth_18 : decode cX8_growth 18 = .ok (.goto 13, 3) := by decide +kernel
theorem dX8_growth_21 : decode cX8_growth 21 = .ok (.aload_n 0, 1) := by decide +kernel
theorem dX8_growth_22 : decode cX8_growth 22 = .ok (.getfield 61, 3) := by decide +kernel
theorem dX8_growth_25 : decode cX8_growth 25 = .ok (.getfield 273, 3) := by decide +kernel
theorem dX8_growth_28 : decode cX8_growth 28 = .ok (.getfield 217, 3) := by decide +kernel
theorem dX8_growth_31 : decode cX8_growth 31 = .ok (.ireturn, 1) := by decide +kernel
theorem dX8_laws_0 : decode cX8_laws 0 = .ok (.aload_n 0, 1) := by decide +kernel
theorem dX8_laws_1 : decode cX8_laws 1 = .ok (.getfield 61, 3) := by decide +kernel
theorem dX8_laws_4 : decode cX8_laws 4 = .ok (.aload_n 0, 1) := by decide +kernel
theorem dX8_laws_5 : decode cX8_laws 5 = .ok (.getfield 33, 3) := by decide +kernel
theorem dX8_laws_8 : decode cX8_laws 8 = .ok (.iload_n 1, 1) := by decide +kernel
theorem dX8_laws_9 : decode cX8_laws 9 = .ok (.invokevirtual 270, 3) := by decide +kernel
theorem dX8_laws_12 : decode cX8_laws 12 = .ok (.istore_n 2, 1) := by decide +kernel
theorem dX8_laws_13 : decode cX8_laws 13 = .ok (.iload_n 2, 1) := by decide +kernel
theorem dX8_laws_14 : decode cX8_laws 14 = .ok (.ifCond .ge 7, 3) := by decide +kernel
theorem dX8_laws_17 : decode cX8_laws 17 = .ok (.iload_n 2, 1) := by decide +kernel
theorem dX8_laws_18 : decode cX8_laws 18 = .ok (.goto 10, 3) := by decide +kernel
theorem dX8_laws_21 : decode cX8_laws 21 = .ok (.aload_n 0, 1) := by decide +kernel
theorem dX8_laws_22 : decode cX8_laws 22 = .ok (.getfield 61, 3) := by decide +kernel
theorem dX8_laws_25 : decode cX8_laws 25 = .ok (.invokevirtual 274, 3) := by decide +kernel
theorem dX8_laws_28 : decode cX8_laws 28 = .ok (.ireturn, 1) := by decide +kernel
theorem dX8_law_0 : decode cX8_law 0 = .ok (.iload_n 3, 1) := by decide +kernel
theorem dX8_law_1 : decode cX8_law 1 = .ok (.invokestatic 145, 3) := by decide +kernel
theorem dX8_law_4 : decode cX8_law 4 = .ok (.ifCond .ne 5, 3) := by decide +kernel
theorem dX8_law_7 : decode cX8_law 7 = .ok (.iconst (-1), 1) := by decide +kernel
theorem dX8_law_8 : decode cX8_law 8 = .ok (.ireturn, 1) := by decide +kernel
theorem dX8_law_9 : decode cX8_law 9 = .ok (.aload_n 0, 1) := by decide +kernel
theorem dX8_law_10 : decode cX8_law 10 = .ok (.getfield 61, 3) := by decide +kernel
theorem dX8_law_13 : decode cX8_law 13 = .ok (.aload_n 0, 1) := by decide +kernel
theorem dX8_law_14 : decode cX8_law 14 = .ok (.getfield 33, 3) := by decide +kernel
theorem dX8_law_17 : decode cX8_law 17 = .ok (.iload_n 1, 1) := by decide +kernel
theorem dX8_law_18 : decode cX8_law 18 = .ok (.invokevirtual 270, 3) := by decide +kernel
theorem dX8_law_21 : decode cX8_law 21 = .ok (.istore 4, 2) := by decide +kernel
theorem dX8_law_23 : decode cX8_law 23 = .ok (.iload 4, 2) := by decide +kernel
theorem dX8_law_25 : decode cX8_law 25 = .ok (.ifCond .ge 6, 3) := by decide +kernel
theorem dX8_law_28 : decode cX8_law 28 = .ok (.iload 4, 2) := by decide +kernel
theorem dX8_law_30 : decode cX8_law 30 = .ok (.ireturn, 1) := by decide +kernel
theorem dX8_law_31 : decode cX8_law 31 = .ok (.aload_n 0, 1) := by decide +kernel
theorem dX8_law_32 : decode cX8_law 32 = .ok (.getfield 61, 3) := by decide +kernel
theorem dX8_law_35 : decode cX8_law 35 = .ok (.iload_n 2, 1) := by decide +kernel
theorem dX8_law_36 : decode cX8_law 36 = .ok (.invokevirtual 277, 3) := by decide +kernel
theorem dX8_law_39 : decode cX8_law 39 = .ok (.istore 5, 2) := by decide +kernel
theorem dX8_law_41 : decode cX8_law 41 = .ok (.iload 5, 2) := by decide +kernel
theorem dX8_law_43 : decode cX8_law 43 = .ok (.ifCond .ge 6, 3) := by decide +kernel
theorem dX8_law_46 : decode cX8_law 46 = .ok (.bipush (-8), 2) := by decide +kernel
theorem dX8_law_48 : decode cX8_law 48 = .ok (.ireturn, 1) := by decide +kernel
theorem dX8_law_49 : decode cX8_law 49 = .ok (.aload_n 0, 1) := by decide +kernel
theorem dX8_law_50 : decode cX8_law 50 = .ok (.getfield 61, 3) := by decide +kernel
theorem dX8_law_53 : decode cX8_law 53 = .ok (.getfield 273, 3) := by decide +kernel
theorem dX8_law_56 : decode cX8_law 56 = .ok (.iload 5, 2) := by decide +kernel
theorem dX8_law_58 : decode cX8_law 58 = .ok (.aload_n 0, 1) := by decide +kernel
theorem dX8_law_59 : decode cX8_law 59 = .ok (.getfield 26, 3) := by decide +kernel
theorem dX8_law_62 : decode cX8_law 62 = .ok (.invokevirtual 280, 3) := by decide +kernel
theorem dX8_law_65 : decode cX8_law 65 = .ok (.aload_n 0, 1) := by decide +kernel
theorem dX8_law_66 : decode cX8_law 66 = .ok (.aload_n 0, 1) := by decide +kernel
theorem dX8_law_67 : decode cX8_law 67 = .ok (.getfield 26, 3) := by decide +kernel
theorem dX8_law_70 : decode cX8_law 70 = .ok (.iload_n 3, 1) := by decide +kernel
theorem dX8_law_71 : decode cX8_law 71 = .ok (.invokevirtual 175, 3) := by decide +kernel
theorem dX8_law_74 : decode cX8_law 74 = .ok (.ireturn, 1) := by decide +kernel
theorem dX8_fall_0 : decode cX8_fall 0 = .ok (.aload_n 0, 1) := by decide +kernel
theorem dX8_fall_1 : decode cX8_fall 1 = .ok (.getfield 61, 3) := by decide +kernel
theorem dX8_fall_4 : decode cX8_fall 4 = .ok (.aload_n 0, 1) := by decide +kernel
theorem dX8_fall_5 : decode cX8_fall 5 = .ok (.getfield 33, 3) := by decide +kernel
theorem dX8_fall_8 : decode cX8_fall 8 = .ok (.iload_n 1, 1) := by decide +kernel
theorem dX8_fall_9 : decode cX8_fall 9 = .ok (.invokevirtual 284, 3) := by decide +kernel
theorem dX8_fall_12 : decode cX8_fall 12 = .ok (.istore_n 2, 1) := by decide +kernel
theorem dX8_fall_13 : decode cX8_fall 13 = .ok (.iload_n 2, 1) := by decide +kernel
theorem dX8_fall_14 : decode cX8_fall 14 = .ok (.ifCond .ge 7, 3) := by decide +kernel
theorem dX8_fall_17 : decode cX8_fall 17 = .ok (.iload_n 2, 1) := by decide +kernel
theorem dX8_fall_18 : decode cX8_fall 18 = .ok (.goto 10, 3) := by decide +kernel
theorem dX8_fall_21 : decode cX8_fall 21 = .ok (.aload_n 0, 1) := by decide +kernel
theorem dX8_fall_22 : decode cX8_fall 22 = .ok (.getfield 61, 3) := by decide +kernel
theorem dX8_fall_25 : decode cX8_fall 25 = .ok (.getfield 287, 3) := by decide +kernel
theorem dX8_fall_28 : decode cX8_fall 28 = .ok (.ireturn, 1) := by decide +kernel
theorem dX8_fallen_0 : decode cX8_fallen 0 = .ok (.iload_n 3, 1) := by decide +kernel
theorem dX8_fallen_1 : decode cX8_fallen 1 = .ok (.invokestatic 145, 3) := by decide +kernel
theorem dX8_fallen_4 : decode cX8_fallen 4 = .ok (.ifCond .ne 5, 3) := by decide +kernel
theorem dX8_fallen_7 : decode cX8_fallen 7 = .ok (.iconst (-1), 1) := by decide +kernel
theorem dX8_fallen_8 : decode cX8_fallen 8 = .ok (.ireturn, 1) := by decide +kernel
theorem dX8_fallen_9 : decode cX8_fallen 9 = .ok (.aload_n 0, 1) := by decide +kernel
theorem dX8_fallen_10 : decode cX8_fallen 10 = .ok (.getfield 61, 3) := by decide +kernel
theorem dX8_fallen_13 : decode cX8_fallen 13 = .ok (.aload_n 0, 1) := by decide +kernel
theorem dX8_fallen_14 : decode cX8_fallen 14 = .ok (.getfield 33, 3) := by decide +kernel
theorem dX8_fallen_17 : decode cX8_fallen 17 = .ok (.iload_n 1, 1) := by decide +kernel
theorem dX8_fallen_18 : decode cX8_fallen 18 = .ok (.invokevirtual 284, 3) := by decide +kernel
theorem dX8_fallen_21 : decode cX8_fallen 21 = .ok (.istore 4, 2) := by decide +kernel
theorem dX8_fallen_23 : decode cX8_fallen 23 = .ok (.iload 4, 2) := by decide +kernel
theorem dX8_fallen_25 : decode cX8_fallen 25 = .ok (.ifCond .ge 6, 3) := by decide +kernel
theorem dX8_fallen_28 : decode cX8_fallen 28 = .ok (.iload 4, 2) := by decide +kernel
theorem dX8_fallen_30 : decode cX8_fallen 30 = .ok (.ireturn, 1) := by decide +kernel
theorem dX8_fallen_31 : decode cX8_fallen 31 = .ok (.iload_n 2, 1) := by decide +kernel
theorem dX8_fallen_32 : decode cX8_fallen 32 = .ok (.ifCond .lt 14, 3) := by decide +kernel
theorem dX8_fallen_35 : decode cX8_fallen 35 = .ok (.iload_n 2, 1) := by decide +kernel
theorem dX8_fallen_36 : decode cX8_fallen 36 = .ok (.aload_n 0, 1) := by decide +kernel
theorem dX8_fallen_37 : decode cX8_fallen 37 = .ok (.getfield 61, 3) := by decide +kernel
theorem dX8_fallen_40 : decode cX8_fallen 40 = .ok (.getfield 287, 3) := by decide +kernel
theorem dX8_fallen_43 : decode cX8_fallen 43 = .ok (.if_icmp .lt 6, 3) := by decide +kernel
theorem dX8_fallen_46 : decode cX8_fallen 46 = .ok (.bipush (-8), 2) := by decide +kernel
theorem dX8_fallen_48 : decode cX8_fallen 48 = .ok (.ireturn, 1) := by decide +kernel
theorem dX8_fallen_49 : decode cX8_fallen 49 = .ok (.aload_n 0, 1) := by decide +kernel
theorem dX8_fallen_50 : decode cX8_fallen 50 = .ok (.getfield 61, 3) := by decide +kernel
theorem dX8_fallen_53 : decode cX8_fallen 53 = .ok (.getfield 273, 3) := by decide +kernel
theorem dX8_fallen_56 : decode cX8_fallen 56 = .ok (.aload_n 0, 1) := by decide +kernel
theorem dX8_fallen_57 : decode cX8_fallen 57 = .ok (.getfield 61, 3) := by decide +kernel
theorem dX8_fallen_60 : decode cX8_fallen 60 = .ok (.getfield 290, 3) := by decide +kernel
theorem dX8_fallen_63 : decode cX8_fallen 63 = .ok (.iload_n 2, 1) := by decide +kernel
theorem dX8_fallen_64 : decode cX8_fallen 64 = .ok (.iaload, 1) := by decide +kernel
theorem dX8_fallen_65 : decode cX8_fallen 65 = .ok (.aload_n 0, 1) := by decide +kernel
theorem dX8_fallen_66 : decode cX8_fallen 66 = .ok (.getfield 26, 3) := by decide +kernel
theorem dX8_fallen_69 : decode cX8_fallen 69 = .ok (.invokevirtual 280, 3) := by decide +kernel
theorem dX8_fallen_72 : decode cX8_fallen 72 = .ok (.aload_n 0, 1) := by decide +kernel
theorem dX8_fallen_73 : decode cX8_fallen 73 = .ok (.aload_n 0, 1) := by decide +kernel
theorem dX8_fallen_74 : decode cX8_fallen 74 = .ok (.getfield 26, 3) := by decide +kernel
theorem dX8_fallen_77 : decode cX8_fallen 77 = .ok (.iload_n 3, 1) := by decide +kernel
theorem dX8_fallen_78 : decode cX8_fallen 78 = .ok (.invokevirtual 175, 3) := by decide +kernel
theorem dX8_fallen_81 : decode cX8_fallen 81 = .ok (.ireturn, 1) := by decide +kernel
theorem dX8_isSheet_0 : decode cX8_isSheet 0 = .ok (.iload_n 0, 1) := by decide +kernel
theorem dX8_isSheet_1 : decode cX8_isSheet 1 = .ok (.ifCond .lt 12, 3) := by decide +kernel
theorem dX8_isSheet_4 : decode cX8_isSheet 4 = .ok (.iload_n 0, 1) := by decide +kernel
theorem dX8_isSheet_5 : decode cX8_isSheet 5 = .ok (.iconst 4, 1) := by decide +kernel
theorem dX8_isSheet_6 : decode cX8_isSheet 6 = .ok (.if_icmp .ge 7, 3) := by decide +kernel
theorem dX8_isSheet_9 : decode cX8_isSheet 9 = .ok (.iconst 1, 1) := by decide +kernel
theorem dX8_isSheet_10 : decode cX8_isSheet 10 = .ok (.goto 4, 3) := by decide +kernel
theorem dX8_isSheet_13 : decode cX8_isSheet 13 = .ok (.iconst 0, 1) := by decide +kernel
theorem dX8_isSheet_14 : decode cX8_isSheet 14 = .ok (.ireturn, 1) := by decide +kernel
theorem dX8_isSpot_0 : decode cX8_isSpot 0 = .ok (.iload_n 0, 1) := by decide +kernel
theorem dX8_isSpot_1 : decode cX8_isSpot 1 = .ok (.ifCond .lt 13, 3) := by decide +kernel
theorem dX8_isSpot_4 : decode cX8_isSpot 4 = .ok (.iload_n 0, 1) := by decide +kernel
theorem dX8_isSpot_5 : decode cX8_isSpot 5 = .ok (.bipush 8, 2) := by decide +kernel
theorem dX8_isSpot_7 : decode cX8_isSpot 7 = .ok (.if_icmp .ge 7, 3) := by decide +kernel
theorem dX8_isSpot_10 : decode cX8_isSpot 10 = .ok (.iconst 1, 1) := by decide +kernel
theorem dX8_isSpot_11 : decode cX8_isSpot 11 = .ok (.goto 4, 3) := by decide +kernel
theorem dX8_isSpot_14 : decode cX8_isSpot 14 = .ok (.iconst 0, 1) := by decide +kernel
theorem dX8_isSpot_15 : decode cX8_isSpot 15 = .ok (.ireturn, 1) := by decide +kernel
theorem dX8_isGoal_0 : decode cX8_isGoal 0 = .ok (.iload_n 0, 1) := by decide +kernel
theorem dX8_isGoal_1 : decode cX8_isGoal 1 = .ok (.iconst (-1), 1) := by decide +kernel
theorem dX8_isGoal_2 : decode cX8_isGoal 2 = .ok (.if_icmp .lt 13, 3) := by decide +kernel
theorem dX8_isGoal_5 : decode cX8_isGoal 5 = .ok (.iload_n 0, 1) := by decide +kernel
theorem dX8_isGoal_6 : decode cX8_isGoal 6 = .ok (.bipush 8, 2) := by decide +kernel
theorem dX8_isGoal_8 : decode cX8_isGoal 8 = .ok (.if_icmp .ge 7, 3) := by decide +kernel
theorem dX8_isGoal_11 : decode cX8_isGoal 11 = .ok (.iconst 1, 1) := by decide +kernel
theorem dX8_isGoal_12 : decode cX8_isGoal 12 = .ok (.goto 4, 3) := by decide +kernel
theorem dX8_isGoal_15 : decode cX8_isGoal 15 = .ok (.iconst 0, 1) := by decide +kernel
theorem dX8_isGoal_16 : decode cX8_isGoal 16 = .ok (.ireturn, 1) := by decide +kernel
theorem dX8_markOf_0 : decode cX8_markOf 0 = .ok (.iload_n 0, 1) := by decide +kernel
theorem dX8_markOf_1 : decode cX8_markOf 1 = .ok (.ifCond .le 11, 3) := by decide +kernel
theorem dX8_markOf_4 : decode cX8_markOf 4 = .ok (.iconst 2, 1) := by decide +kernel
theorem dX8_markOf_5 : decode cX8_markOf 5 = .ok (.iload_n 0, 1) := by decide +kernel
theorem dX8_markOf_6 : decode cX8_markOf 6 = .ok (.iconst 1, 1) := by decide +kernel
theorem dX8_markOf_7 : decode cX8_markOf 7 = .ok (.isub, 1) := by decide +kernel
theorem dX8_markOf_8 : decode cX8_markOf 8 = .ok (.imul, 1) := by decide +kernel
theorem dX8_markOf_9 : decode cX8_markOf 9 = .ok (.goto 11, 3) := by decide +kernel
theorem dX8_markOf_12 : decode cX8_markOf 12 = .ok (.iconst 2, 1) := by decide +kernel
theorem dX8_markOf_13 : decode cX8_markOf 13 = .ok (.iload_n 0, 1) := by decide +kernel
theorem dX8_markOf_14 : decode cX8_markOf 14 = .ok (.ineg, 1) := by decide +kernel
theorem dX8_markOf_15 : decode cX8_markOf 15 = .ok (.iconst 1, 1) := by decide +kernel
theorem dX8_markOf_16 : decode cX8_markOf 16 = .ok (.isub, 1) := by decide +kernel
theorem dX8_markOf_17 : decode cX8_markOf 17 = .ok (.imul, 1) := by decide +kernel
theorem dX8_markOf_18 : decode cX8_markOf 18 = .ok (.iconst 1, 1) := by decide +kernel
theorem dX8_markOf_19 : decode cX8_markOf 19 = .ok (.iadd, 1) := by decide +kernel
theorem dX8_markOf_20 : decode cX8_markOf 20 = .ok (.ireturn, 1) := by decide +kernel
theorem dX8_tokenOf_0 : decode cX8_tokenOf 0 = .ok (.iload_n 0, 1) := by decide +kernel
theorem dX8_tokenOf_1 : decode cX8_tokenOf 1 = .ok (.iconst 1, 1) := by decide +kernel
theorem dX8_tokenOf_2 : decode cX8_tokenOf 2 = .ok (.ishr, 1) := by decide +kernel
theorem dX8_tokenOf_3 : decode cX8_tokenOf 3 = .ok (.iconst 1, 1) := by decide +kernel
theorem dX8_tokenOf_4 : decode cX8_tokenOf 4 = .ok (.iadd, 1) := by decide +kernel
theorem dX8_tokenOf_5 : decode cX8_tokenOf 5 = .ok (.istore_n 1, 1) := by decide +kernel
theorem dX8_tokenOf_6 : decode cX8_tokenOf 6 = .ok (.iload_n 0, 1) := by decide +kernel
theorem dX8_tokenOf_7 : decode cX8_tokenOf 7 = .ok (.iconst 1, 1) := by decide +kernel
theorem dX8_tokenOf_8 : decode cX8_tokenOf 8 = .ok (.iand, 1) := by decide +kernel
theorem dX8_tokenOf_9 : decode cX8_tokenOf 9 = .ok (.ifCond .ne 7, 3) := by decide +kernel
theorem dX8_tokenOf_12 : decode cX8_tokenOf 12 = .ok (.iload_n 1, 1) := by decide +kernel
theorem dX8_tokenOf_13 : decode cX8_tokenOf 13 = .ok (.goto 5, 3) := by decide +kernel
theorem dX8_tokenOf_16 : decode cX8_tokenOf 16 = .ok (.iload_n 1, 1) := by decide +kernel
theorem dX8_tokenOf_17 : decode cX8_tokenOf 17 = .ok (.ineg, 1) := by decide +kernel
theorem dX8_tokenOf_18 : decode cX8_tokenOf 18 = .ok (.ireturn, 1) := by decide +kernel
theorem dX8_forgetAnswers_0 : decode cX8_forgetAnswers 0 = .ok (.aload_n 0, 1) := by decide +kernel
theorem dX8_forgetAnswers_1 : decode cX8_forgetAnswers 1 = .ok (.getfield 40, 3) := by decide +kernel
theorem dX8_forgetAnswers_4 : decode cX8_forgetAnswers 4 = .ok (.invokevirtual 293, 3) := by decide +kernel
theorem dX8_forgetAnswers_7 : decode cX8_forgetAnswers 7 = .ok (.aload_n 0, 1) := by decide +kernel
theorem dX8_forgetAnswers_8 : decode cX8_forgetAnswers 8 = .ok (.getfield 61, 3) := by decide +kernel
theorem dX8_forgetAnswers_11 : decode cX8_forgetAnswers 11 = .ok (.invokevirtual 296, 3) := by decide +kernel
theorem dX8_forgetAnswers_14 : decode cX8_forgetAnswers 14 = .ok (.return_, 1) := by decide +kernel
theorem dX8_hasLostWayBack_0 : decode cX8_hasLostWayBack 0 = .ok (.iconst 0, 1) := by decide +kernel
theorem dX8_hasLostWayBack_1 : decode cX8_hasLostWayBack 1 = .ok (.istore_n 2, 1) := by decide +kernel
theorem dX8_hasLostWayBack_2 : decode cX8_hasLostWayBack 2 = .ok (.iload_n 2, 1) := by decide +kernel
theorem dX8_hasLostWayBack_3 : decode cX8_hasLostWayBack 3 = .ok (.aload_n 1, 1) := by decide +kernel
theorem dX8_hasLostWayBack_4 : decode cX8_hasLostWayBack 4 = .ok (.getfield 163, 3) := by decide +kernel
theorem dX8_hasLostWayBack_7 : decode cX8_hasLostWayBack 7 = .ok (.if_icmp .ge 37, 3) := by decide +kernel
theorem dX8_hasLostWayBack_10 : decode cX8_hasLostWayBack 10 = .ok (.aload_n 1, 1) := by decide +kernel
theorem dX8_hasLostWayBack_11 : decode cX8_hasLostWayBack 11 = .ok (.iload_n 2, 1) := by decide +kernel
theorem dX8_hasLostWayBack_12 : decode cX8_hasLostWayBack 12 = .ok (.invokevirtual 166, 3) := by decide +kernel
theorem dX8_hasLostWayBack_15 : decode cX8_hasLostWayBack 15 = .ok (.istore_n 3, 1) := by decide +kernel
theorem dX8_hasLostWayBack_16 : decode cX8_hasLostWayBack 16 = .ok (.iload_n 3, 1) := by decide +kernel
theorem dX8_hasLostWayBack_17 : decode cX8_hasLostWayBack 17 = .ok (.iconst 1, 1) := by decide +kernel
theorem dX8_hasLostWayBack_18 : decode cX8_hasLostWayBack 18 = .ok (.iand, 1) := by decide +kernel
theorem dX8_hasLostWayBack_19 : decode cX8_hasLostWayBack 19 = .ok (.iconst 1, 1) := by decide +kernel
theorem dX8_hasLostWayBack_20 : decode cX8_hasLostWayBack 20 = .ok (.if_icmp .ne 18, 3) := by decide +kernel
theorem dX8_hasLostWayBack_23 : decode cX8_hasLostWayBack 23 = .ok (.aload_n 0, 1) := by decide +kernel
theorem dX8_hasLostWayBack_24 : decode cX8_hasLostWayBack 24 = .ok (.getfield 33, 3) := by decide +kernel
theorem dX8_hasLostWayBack_27 : decode cX8_hasLostWayBack 27 = .ok (.iload_n 3, 1) := by decide +kernel
theorem dX8_hasLostWayBack_28 : decode cX8_hasLostWayBack 28 = .ok (.iconst 1, 1) := by decide +kernel
theorem dX8_hasLostWayBack_29 : decode cX8_hasLostWayBack 29 = .ok (.ishr, 1) := by decide +kernel
theorem dX8_hasLostWayBack_30 : decode cX8_hasLostWayBack 30 = .ok (.invokevirtual 127, 3) := by decide +kernel
theorem dX8_hasLostWayBack_33 : decode cX8_hasLostWayBack 33 = .ok (.ifCond .ne 5, 3) := by decide +kernel
theorem dX8_hasLostWayBack_36 : decode cX8_hasLostWayBack 36 = .ok (.iconst 1, 1) := by decide +kernel
theorem dX8_hasLostWayBack_37 : decode cX8_hasLostWayBack 37 = .ok (.ireturn, 1) := by decide +kernel
theorem dX8_hasLostWayBack_38 : decode cX8_hasLostWayBack 38 = .ok (.iinc 2 1, 3) := by decide +kernel
theorem dX8_hasLostWayBack_41 : decode cX8_hasLostWayBack 41 = .ok (.goto (-39), 3) := by decide +kernel
theorem dX8_hasLostWayBack_44 : decode cX8_hasLostWayBack 44 = .ok (.iconst 0, 1) := by decide +kernel
theorem dX8_hasLostWayBack_45 : decode cX8_hasLostWayBack 45 = .ok (.ireturn, 1) := by decide +kernel
theorem dX8_hasBackStates_0 : decode cX8_hasBackStates 0 = .ok (.iconst 0, 1) := by decide +kernel
theorem dX8_hasBackStates_1 : decode cX8_hasBackStates 1 = .ok (.istore_n 2, 1) := by decide +kernel
theorem dX8_hasBackStates_2 : decode cX8_hasBackStates 2 = .ok (.iload_n 2, 1) := by decide +kernel
theorem dX8_hasBackStates_3 : decode cX8_hasBackStates 3 = .ok (.aload_n 1, 1) := by decide +kernel
theorem dX8_hasBackStates_4 : decode cX8_hasBackStates 4 = .ok (.getfield 163, 3) := by decide +kernel
theorem dX8_hasBackStates_7 : decode cX8_hasBackStates 7 = .ok (.if_icmp .ge 28, 3) := by decide +kernel
theorem dX8_hasBackStates_10 : decode cX8_hasBackStates 10 = .ok (.aload_n 0, 1) := by decide +kernel
theorem dX8_hasBackStates_11 : decode cX8_hasBackStates 11 = .ok (.getfield 33, 3) := by decide +kernel
theorem dX8_hasBackStates_14 : decode cX8_hasBackStates 14 = .ok (.aload_n 1, 1) := by decide +kernel
theorem dX8_hasBackStates_15 : decode cX8_hasBackStates 15 = .ok (.iload_n 2, 1) := by decide +kernel
theorem dX8_hasBackStates_16 : decode cX8_hasBackStates 16 = .ok (.invokevirtual 166, 3) := by decide +kernel
theorem dX8_hasBackStates_19 : decode cX8_hasBackStates 19 = .ok (.iconst 1, 1) := by decide +kernel
theorem dX8_hasBackStates_20 : decode cX8_hasBackStates 20 = .ok (.ishr, 1) := by decide +kernel
theorem dX8_hasBackStates_21 : decode cX8_hasBackStates 21 = .ok (.invokevirtual 127, 3) := by decide +kernel
theorem dX8_hasBackStates_24 : decode cX8_hasBackStates 24 = .ok (.ifCond .ne 5, 3) := by decide +kernel
theorem dX8_hasBackStates_27 : decode cX8_hasBackStates 27 = .ok (.iconst 0, 1) := by decide +kernel
theorem dX8_hasBackStates_28 : decode cX8_hasBackStates 28 = .ok (.ireturn, 1) := by decide +kernel
theorem dX8_hasBackStates_29 : decode cX8_hasBackStates 29 = .ok (.iinc 2 1, 3) := by decide +kernel
theorem dX8_hasBackStates_32 : decode cX8_hasBackStates 32 = .ok (.goto (-30), 3) := by decide +kernel
theorem dX8_hasBackStates_35 : decode cX8_hasBackStates 35 = .ok (.iconst 1, 1) := by decide +kernel
theorem dX8_hasBackStates_36 : decode cX8_hasBackStates 36 = .ok (.ireturn, 1) := by decide +kernel
theorem dX8_refusalOfGiven_0 : decode cX8_refusalOfGiven 0 = .ok (.iconst 0, 1) := by decide +kernel
theorem dX8_refusalOfGiven_1 : decode cX8_refusalOfGiven 1 = .ok (.istore_n 1, 1) := by decide +kernel
theorem dX8_refusalOfGiven_2 : decode cX8_refusalOfGiven 2 = .ok (.iconst 0, 1) := by decide +kernel
theorem dX8_refusalOfGiven_3 : decode cX8_refusalOfGiven 3 = .ok (.istore_n 2, 1) := by decide +kernel
theorem dX8_refusalOfGiven_4 : decode cX8_refusalOfGiven 4 = .ok (.iload_n 2, 1) := by decide +kernel
theorem dX8_refusalOfGiven_5 : decode cX8_refusalOfGiven 5 = .ok (.iconst 4, 1) := by decide +kernel
theorem dX8_refusalOfGiven_6 : decode cX8_refusalOfGiven 6 = .ok (.if_icmp .ge 71, 3) := by decide +kernel
theorem dX8_refusalOfGiven_9 : decode cX8_refusalOfGiven 9 = .ok (.aload_n 0, 1) := by decide +kernel
theorem dX8_refusalOfGiven_10 : decode cX8_refusalOfGiven 10 = .ok (.getfield 21, 3) := by decide +kernel
theorem dX8_refusalOfGiven_13 : decode cX8_refusalOfGiven 13 = .ok (.iload_n 2, 1) := by decide +kernel
theorem dX8_refusalOfGiven_14 : decode cX8_refusalOfGiven 14 = .ok (.iaload, 1) := by decide +kernel
theorem dX8_refusalOfGiven_15 : decode cX8_refusalOfGiven 15 = .ok (.ifCond .eq 62, 3) := by decide +kernel
theorem dX8_refusalOfGiven_18 : decode cX8_refusalOfGiven 18 = .ok (.aload_n 0, 1) := by decide +kernel
theorem dX8_refusalOfGiven_19 : decode cX8_refusalOfGiven 19 = .ok (.getfield 21, 3) := by decide +kernel
theorem dX8_refusalOfGiven_22 : decode cX8_refusalOfGiven 22 = .ok (.iload_n 2, 1) := by decide +kernel
theorem dX8_refusalOfGiven_23 : decode cX8_refusalOfGiven 23 = .ok (.iaload, 1) := by decide +kernel
theorem dX8_refusalOfGiven_24 : decode cX8_refusalOfGiven 24 = .ok (.istore_n 3, 1) := by decide +kernel
theorem dX8_refusalOfGiven_25 : decode cX8_refusalOfGiven 25 = .ok (.iload_n 3, 1) := by decide +kernel
theorem dX8_refusalOfGiven_26 : decode cX8_refusalOfGiven 26 = .ok (.aload_n 0, 1) := by decide +kernel
theorem dX8_refusalOfGiven_27 : decode cX8_refusalOfGiven 27 = .ok (.getfield 33, 3) := by decide +kernel
theorem dX8_refusalOfGiven_30 : decode cX8_refusalOfGiven 30 = .ok (.getfield 102, 3) := by decide +kernel
theorem dX8_refusalOfGiven_33 : decode cX8_refusalOfGiven 33 = .ok (.ineg, 1) := by decide +kernel
theorem dX8_refusalOfGiven_34 : decode cX8_refusalOfGiven 34 = .ok (.if_icmp .lt 14, 3) := by decide +kernel
theorem dX8_refusalOfGiven_37 : decode cX8_refusalOfGiven 37 = .ok (.iload_n 3, 1) := by decide +kernel
theorem dX8_refusalOfGiven_38 : decode cX8_refusalOfGiven 38 = .ok (.aload_n 0, 1) := by decide +kernel
theorem dX8_refusalOfGiven_39 : decode cX8_refusalOfGiven 39 = .ok (.getfield 33, 3) := by decide +kernel
theorem dX8_refusalOfGiven_42 : decode cX8_refusalOfGiven 42 = .ok (.getfield 102, 3) := by decide +kernel
theorem dX8_refusalOfGiven_45 : decode cX8_refusalOfGiven 45 = .ok (.if_icmp .le 5, 3) := by decide +kernel
theorem dX8_refusalOfGiven_48 : decode cX8_refusalOfGiven 48 = .ok (.iconst (-1), 1) := by decide +kernel
theorem dX8_refusalOfGiven_49 : decode cX8_refusalOfGiven 49 = .ok (.ireturn, 1) := by decide +kernel
theorem dX8_refusalOfGiven_50 : decode cX8_refusalOfGiven 50 = .ok (.iload_n 3, 1) := by decide +kernel
theorem dX8_refusalOfGiven_51 : decode cX8_refusalOfGiven 51 = .ok (.ifCond .ge 20, 3) := by decide +kernel
theorem dX8_refusalOfGiven_54 : decode cX8_refusalOfGiven 54 = .ok (.aload_n 0, 1) := by decide +kernel
theorem dX8_refusalOfGiven_55 : decode cX8_refusalOfGiven 55 = .ok (.getfield 33, 3) := by decide +kernel
theorem dX8_refusalOfGiven_58 : decode cX8_refusalOfGiven 58 = .ok (.iload_n 3, 1) := by decide +kernel
theorem dX8_refusalOfGiven_59 : decode cX8_refusalOfGiven 59 = .ok (.ineg, 1) := by decide +kernel
theorem dX8_refusalOfGiven_60 : decode cX8_refusalOfGiven 60 = .ok (.iconst 1, 1) := by decide +kernel
theorem dX8_refusalOfGiven_61 : decode cX8_refusalOfGiven 61 = .ok (.isub, 1) := by decide +kernel
theorem dX8_refusalOfGiven_62 : decode cX8_refusalOfGiven 62 = .ok (.invokevirtual 127, 3) := by decide +kernel
theorem dX8_refusalOfGiven_65 : decode cX8_refusalOfGiven 65 = .ok (.ifCond .ne 6, 3) := by decide +kernel
theorem dX8_refusalOfGiven_68 : decode cX8_refusalOfGiven 68 = .ok (.bipush (-6), 2) := by decide +kernel
theorem dX8_refusalOfGiven_70 : decode cX8_refusalOfGiven 70 = .ok (.istore_n 1, 1) := by decide +kernel
theorem dX8_refusalOfGiven_71 : decode cX8_refusalOfGiven 71 = .ok (.iinc 2 1, 3) := by decide +kernel
theorem dX8_refusalOfGiven_74 : decode cX8_refusalOfGiven 74 = .ok (.goto (-70), 3) := by decide +kernel
theorem dX8_refusalOfGiven_77 : decode cX8_refusalOfGiven 77 = .ok (.iload_n 1, 1) := by decide +kernel
theorem dX8_refusalOfGiven_78 : decode cX8_refusalOfGiven 78 = .ok (.ireturn, 1) := by decide +kernel
theorem dX8_bring_0 : decode cX8_bring 0 = .ok (.aload_n 0, 1) := by decide +kernel
theorem dX8_bring_1 : decode cX8_bring 1 = .ok (.getfield 17, 3) := by decide +kernel
theorem dX8_bring_4 : decode cX8_bring 4 = .ok (.iload_n 2, 1) := by decide +kernel
theorem dX8_bring_5 : decode cX8_bring 5 = .ok (.aaload, 1) := by decide +kernel
theorem dX8_bring_6 : decode cX8_bring 6 = .ok (.aload_n 1, 1) := by decide +kernel
theorem dX8_bring_7 : decode cX8_bring 7 = .ok (.invokevirtual 182, 3) := by decide +kernel
theorem dX8_bring_10 : decode cX8_bring 10 = .ok (.aload_n 1, 1) := by decide +kernel
theorem dX8_bring_11 : decode cX8_bring 11 = .ok (.getfield 163, 3) := by decide +kernel
theorem dX8_bring_14 : decode cX8_bring 14 = .ok (.ireturn, 1) := by decide +kernel
theorem dX8_join_0 : decode cX8_join 0 = .ok (.aload_n 2, 1) := by decide +kernel
theorem dX8_join_1 : decode cX8_join 1 = .ok (.getfield 297, 3) := by decide +kernel
theorem dX8_join_4 : decode cX8_join 4 = .ok (.lstore 4, 2) := by decide +kernel
theorem dX8_join_6 : decode cX8_join 6 = .ok (.aload_n 2, 1) := by decide +kernel
theorem dX8_join_7 : decode cX8_join 7 = .ok (.getfield 163, 3) := by decide +kernel
theorem dX8_join_10 : decode cX8_join 10 = .ok (.istore 6, 2) := by decide +kernel
theorem dX8_join_12 : decode cX8_join 12 = .ok (.aload_n 0, 1) := by decide +kernel
theorem dX8_join_13 : decode cX8_join 13 = .ok (.getfield 26, 3) := by decide +kernel
theorem dX8_join_16 : decode cX8_join 16 = .ok (.aload_n 1, 1) := by decide +kernel
theorem dX8_join_17 : decode cX8_join 17 = .ok (.invokevirtual 182, 3) := by decide +kernel
theorem dX8_join_20 : decode cX8_join 20 = .ok (.iconst 0, 1) := by decide +kernel
theorem dX8_join_21 : decode cX8_join 21 = .ok (.istore 7, 2) := by decide +kernel
theorem dX8_join_23 : decode cX8_join 23 = .ok (.iload 7, 2) := by decide +kernel
theorem dX8_join_25 : decode cX8_join 25 = .ok (.iload 6, 2) := by decide +kernel
theorem dX8_join_27 : decode cX8_join 27 = .ok (.if_icmp .ge 33, 3) := by decide +kernel
theorem dX8_join_30 : decode cX8_join 30 = .ok (.aload_n 0, 1) := by decide +kernel
theorem dX8_join_31 : decode cX8_join 31 = .ok (.getfield 26, 3) := by decide +kernel
theorem dX8_join_34 : decode cX8_join 34 = .ok (.lload 4, 2) := by decide +kernel
theorem dX8_join_36 : decode cX8_join 36 = .ok (.iconst 4, 1) := by decide +kernel
theorem dX8_join_37 : decode cX8_join 37 = .ok (.iload 7, 2) := by decide +kernel
theorem dX8_join_39 : decode cX8_join 39 = .ok (.imul, 1) := by decide +kernel
theorem dX8_join_40 : decode cX8_join 40 = .ok (.lushr, 1) := by decide +kernel
theorem dX8_join_41 : decode cX8_join 41 = .ok (.l2i, 1) := by decide +kernel
theorem dX8_join_42 : decode cX8_join 42 = .ok (.bipush 15, 2) := by decide +kernel
theorem dX8_join_44 : decode cX8_join 44 = .ok (.iand, 1) := by decide +kernel
theorem dX8_join_45 : decode cX8_join 45 = .ok (.invokevirtual 156, 3) := by decide +kernel
theorem dX8_join_48 : decode cX8_join 48 = .ok (.ifCond .ne 6, 3) := by decide +kernel
theorem dX8_join_51 : decode cX8_join 51 = .ok (.bipush (-2), 2) := by decide +kernel
theorem dX8_join_53 : decode cX8_join 53 = .ok (.ireturn, 1) := by decide +kernel
theorem dX8_join_54 : decode cX8_join 54 = .ok (.iinc 7 1, 3) := by decide +kernel
theorem dX8_join_57 : decode cX8_join 57 = .ok (.goto (-34), 3) := by decide +kernel
theorem dX8_join_60 : decode cX8_join 60 = .ok (.aload_n 0, 1) := by decide +kernel
theorem dX8_join_61 : decode cX8_join 61 = .ok (.aload_n 0, 1) := by decide +kernel
theorem dX8_join_62 : decode cX8_join 62 = .ok (.getfield 26, 3) := by decide +kernel
theorem dX8_join_65 : decode cX8_join 65 = .ok (.iload_n 3, 1) := by decide +kernel
theorem dX8_join_66 : decode cX8_join 66 = .ok (.invokevirtual 175, 3) := by decide +kernel
theorem dX8_join_69 : decode cX8_join 69 = .ok (.ireturn, 1) := by decide +kernel
theorem dX8_walkDown_0 : decode cX8_walkDown 0 = .ok (.iconst 1, 1) := by decide +kernel
theorem dX8_walkDown_1 : decode cX8_walkDown 1 = .ok (.istore 4, 2) := by decide +kernel
theorem dX8_walkDown_3 : decode cX8_walkDown 3 = .ok (.iload_n 3, 1) := by decide +kernel
theorem dX8_walkDown_4 : decode cX8_walkDown 4 = .ok (.iconst 1, 1) := by decide +kernel
theorem dX8_walkDown_5 : decode cX8_walkDown 5 = .ok (.isub, 1) := by decide +kernel
theorem dX8_walkDown_6 : decode cX8_walkDown 6 = .ok (.istore 5, 2) := by decide +kernel
theorem dX8_walkDown_8 : decode cX8_walkDown 8 = .ok (.iload 5, 2) := by decide +kernel
theorem dX8_walkDown_10 : decode cX8_walkDown 10 = .ok (.ifCond .lt 32, 3) := by decide +kernel
theorem dX8_walkDown_13 : decode cX8_walkDown 13 = .ok (.iconst 4, 1) := by decide +kernel
theorem dX8_walkDown_14 : decode cX8_walkDown 14 = .ok (.iload 4, 2) := by decide +kernel
theorem dX8_walkDown_16 : decode cX8_walkDown 16 = .ok (.imul, 1) := by decide +kernel
theorem dX8_walkDown_17 : decode cX8_walkDown 17 = .ok (.aload_n 1, 1) := by decide +kernel
theorem dX8_walkDown_18 : decode cX8_walkDown 18 = .ok (.aload_n 0, 1) := by decide +kernel
theorem dX8_walkDown_19 : decode cX8_walkDown 19 = .ok (.getfield 33, 3) := by decide +kernel
theorem dX8_walkDown_22 : decode cX8_walkDown 22 = .ok (.iload_n 2, 1) := by decide +kernel
theorem dX8_walkDown_23 : decode cX8_walkDown 23 = .ok (.iconst 2, 1) := by decide +kernel
theorem dX8_walkDown_24 : decode cX8_walkDown 24 = .ok (.iload 5, 2) := by decide +kernel
theorem dX8_walkDown_26 : decode cX8_walkDown 26 = .ok (.imul, 1) := by decide +kernel
theorem dX8_walkDown_27 : decode cX8_walkDown 27 = .ok (.ishr, 1) := by decide +kernel
theorem dX8_walkDown_28 : decode cX8_walkDown 28 = .ok (.iconst 3, 1) := by decide +kernel
theorem dX8_walkDown_29 : decode cX8_walkDown 29 = .ok (.iand, 1) := by decide +kernel
theorem dX8_walkDown_30 : decode cX8_walkDown 30 = .ok (.invokevirtual 301, 3) := by decide +kernel
theorem dX8_walkDown_33 : decode cX8_walkDown 33 = .ok (.iadd, 1) := by decide +kernel
theorem dX8_walkDown_34 : decode cX8_walkDown 34 = .ok (.istore 4, 2) := by decide +kernel
theorem dX8_walkDown_36 : decode cX8_walkDown 36 = .ok (.iinc 5 (-1), 3) := by decide +kernel
theorem dX8_walkDown_39 : decode cX8_walkDown 39 = .ok (.goto (-31), 3) := by decide +kernel
theorem dX8_walkDown_42 : decode cX8_walkDown 42 = .ok (.iload 4, 2) := by decide +kernel
theorem dX8_walkDown_44 : decode cX8_walkDown 44 = .ok (.ireturn, 1) := by decide +kernel
theorem dX8_gather_0 : decode cX8_gather 0 = .ok (.iload_n 1, 1) := by decide +kernel
theorem dX8_gather_1 : decode cX8_gather 1 = .ok (.invokestatic 145, 3) := by decide +kernel
theorem dX8_gather_4 : decode cX8_gather 4 = .ok (.ifCond .eq 10, 3) := by decide +kernel
theorem dX8_gather_7 : decode cX8_gather 7 = .ok (.iload_n 2, 1) := by decide +kernel
theorem dX8_gather_8 : decode cX8_gather 8 = .ok (.invokestatic 145, 3) := by decide +kernel
theorem dX8_gather_11 : decode cX8_gather 11 = .ok (.ifCond .ne 5, 3) := by decide +kernel
theorem dX8_gather_14 : decode cX8_gather 14 = .ok (.iconst (-1), 1) := by decide +kernel
theorem dX8_gather_15 : decode cX8_gather 15 = .ok (.ireturn, 1) := by decide +kernel
theorem dX8_gather_16 : decode cX8_gather 16 = .ok (.aload_n 0, 1) := by decide +kernel
theorem dX8_gather_17 : decode cX8_gather 17 = .ok (.getfield 33, 3) := by decide +kernel
theorem dX8_gather_20 : decode cX8_gather 20 = .ok (.getfield 139, 3) := by decide +kernel
theorem dX8_gather_23 : decode cX8_gather 23 = .ok (.ifCond .ne 6, 3) := by decide +kernel
theorem dX8_gather_26 : decode cX8_gather 26 = .ok (.bipush (-5), 2) := by decide +kernel
theorem dX8_gather_28 : decode cX8_gather 28 = .ok (.ireturn, 1) := by decide +kernel
theorem dX8_gather_29 : decode cX8_gather 29 = .ok (.aload_n 0, 1) := by decide +kernel
theorem dX8_gather_30 : decode cX8_gather 30 = .ok (.getfield 54, 3) := by decide +kernel
theorem dX8_gather_33 : decode cX8_gather 33 = .ok (.invokevirtual 304, 3) := by decide +kernel
theorem dX8_gather_36 : decode cX8_gather 36 = .ok (.aload_n 0, 1) := by decide +kernel
theorem dX8_gather_37 : decode cX8_gather 37 = .ok (.getfield 54, 3) := by decide +kernel
theorem dX8_gather_40 : decode cX8_gather 40 = .ok (.aload_n 0, 1) := by decide +kernel
theorem dX8_gather_41 : decode cX8_gather 41 = .ok (.getfield 33, 3) := by decide +kernel
theorem dX8_gather_44 : decode cX8_gather 44 = .ok (.aload_n 0, 1) := by decide +kernel
theorem dX8_gather_45 : decode cX8_gather 45 = .ok (.getfield 17, 3) := by decide +kernel
theorem dX8_gather_48 : decode cX8_gather 48 = .ok (.iload_n 1, 1) := by decide +kernel
theorem dX8_gather_49 : decode cX8_gather 49 = .ok (.aaload, 1) := by decide +kernel
theorem dX8_gather_50 : decode cX8_gather 50 = .ok (.invokevirtual 307, 3) := by decide +kernel
theorem dX8_gather_53 : decode cX8_gather 53 = .ok (.ifCond .lt 23, 3) := by decide +kernel
theorem dX8_gather_56 : decode cX8_gather 56 = .ok (.aload_n 0, 1) := by decide +kernel
theorem dX8_gather_57 : decode cX8_gather 57 = .ok (.getfield 54, 3) := by decide +kernel
theorem dX8_gather_60 : decode cX8_gather 60 = .ok (.aload_n 0, 1) := by decide +kernel
theorem dX8_gather_61 : decode cX8_gather 61 = .ok (.getfield 33, 3) := by decide +kernel
theorem dX8_gather_64 : decode cX8_gather 64 = .ok (.aload_n 0, 1) := by decide +kernel
theorem dX8_gather_65 : decode cX8_gather 65 = .ok (.getfield 17, 3) := by decide +kernel
theorem dX8_gather_68 : decode cX8_gather 68 = .ok (.iload_n 2, 1) := by decide +kernel
theorem dX8_gather_69 : decode cX8_gather 69 = .ok (.aaload, 1) := by decide +kernel
theorem dX8_gather_70 : decode cX8_gather 70 = .ok (.invokevirtual 307, 3) := by decide +kernel
theorem dX8_gather_73 : decode cX8_gather 73 = .ok (.ifCond .ge 6, 3) := by decide +kernel
theorem dX8_gather_76 : decode cX8_gather 76 = .ok (.bipush (-7), 2) := by decide +kernel
theorem dX8_gather_78 : decode cX8_gather 78 = .ok (.ireturn, 1) := by decide +kernel
theorem dX8_gather_79 : decode cX8_gather 79 = .ok (.iconst 0, 1) := by decide +kernel
theorem dX8_gather_80 : decode cX8_gather 80 = .ok (.ireturn, 1) := by decide +kernel
theorem dX8_levelOf_0 : decode cX8_levelOf 0 = .ok (.aload_n 0, 1) := by decide +kernel
theorem dX8_levelOf_1 : decode cX8_levelOf 1 = .ok (.getfield 33, 3) := by decide +kernel
theorem dX8_levelOf_4 : decode cX8_levelOf 4 = .ok (.iload_n 1, 1) := by decide +kernel
theorem dX8_levelOf_5 : decode cX8_levelOf 5 = .ok (.invokevirtual 179, 3) := by decide +kernel
theorem dX8_levelOf_8 : decode cX8_levelOf 8 = .ok (.istore_n 2, 1) := by decide +kernel
theorem dX8_levelOf_9 : decode cX8_levelOf 9 = .ok (.aload_n 0, 1) := by decide +kernel
theorem dX8_levelOf_10 : decode cX8_levelOf 10 = .ok (.getfield 33, 3) := by decide +kernel
theorem dX8_levelOf_13 : decode cX8_levelOf 13 = .ok (.iload_n 2, 1) := by decide +kernel
theorem dX8_levelOf_14 : decode cX8_levelOf 14 = .ok (.sipush 256, 3) := by decide +kernel
theorem dX8_levelOf_17 : decode cX8_levelOf 17 = .ok (.invokevirtual 220, 3) := by decide +kernel
theorem dX8_levelOf_20 : decode cX8_levelOf 20 = .ok (.ifCond .ne 7, 3) := by decide +kernel
theorem dX8_levelOf_23 : decode cX8_levelOf 23 = .ok (.iconst (-1), 1) := by decide +kernel
theorem dX8_levelOf_24 : decode cX8_levelOf 24 = .ok (.goto 4, 3) := by decide +kernel
theorem dX8_levelOf_27 : decode cX8_levelOf 27 = .ok (.iload_n 2, 1) := by decide +kernel
theorem dX8_levelOf_28 : decode cX8_levelOf 28 = .ok (.ireturn, 1) := by decide +kernel
theorem dX8_walkFrom_0 : decode cX8_walkFrom 0 = .ok (.aload_n 0, 1) := by decide +kernel
theorem dX8_walkFrom_1 : decode cX8_walkFrom 1 = .ok (.getfield 40, 3) := by decide +kernel
theorem dX8_walkFrom_4 : decode cX8_walkFrom 4 = .ok (.aload_n 0, 1) := by decide +kernel
theorem dX8_walkFrom_5 : decode cX8_walkFrom 5 = .ok (.getfield 33, 3) := by decide +kernel
theorem dX8_walkFrom_8 : decode cX8_walkFrom 8 = .ok (.iload_n 2, 1) := by decide +kernel
theorem dX8_walkFrom_9 : decode cX8_walkFrom 9 = .ok (.invokevirtual 223, 3) := by decide +kernel
theorem dX8_walkFrom_12 : decode cX8_walkFrom 12 = .ok (.aload_n 0, 1) := by decide +kernel
theorem dX8_walkFrom_13 : decode cX8_walkFrom 13 = .ok (.getfield 40, 3) := by decide +kernel
theorem dX8_walkFrom_16 : decode cX8_walkFrom 16 = .ok (.invokevirtual 311, 3) := by decide +kernel
theorem dX8_walkFrom_19 : decode cX8_walkFrom 19 = .ok (.aload_n 0, 1) := by decide +kernel
theorem dX8_walkFrom_20 : decode cX8_walkFrom 20 = .ok (.getfield 40, 3) := by decide +kernel
theorem dX8_walkFrom_23 : decode cX8_walkFrom 23 = .ok (.aload_n 0, 1) := by decide +kernel
theorem dX8_walkFrom_24 : decode cX8_walkFrom 24 = .ok (.getfield 33, 3) := by decide +kernel
theorem dX8_walkFrom_27 : decode cX8_walkFrom 27 = .ok (.iload_n 2, 1) := by decide +kernel
theorem dX8_walkFrom_28 : decode cX8_walkFrom 28 = .ok (.aload_n 0, 1) := by decide +kernel
theorem dX8_walkFrom_29 : decode cX8_walkFrom 29 = .ok (.getfield 33, 3) := by decide +kernel
theorem dX8_walkFrom_32 : decode cX8_walkFrom 32 = .ok (.iload_n 1, 1) := by decide +kernel
theorem dX8_walkFrom_33 : decode cX8_walkFrom 33 = .ok (.iload_n 2, 1) := by decide +kernel
theorem dX8_walkFrom_34 : decode cX8_walkFrom 34 = .ok (.invokevirtual 243, 3) := by decide +kernel
theorem dX8_walkFrom_37 : decode cX8_walkFrom 37 = .ok (.iconst 0, 1) := by decide +kernel
theorem dX8_walkFrom_38 : decode cX8_walkFrom 38 = .ok (.invokevirtual 314, 3) := by decide +kernel
theorem dX8_walkFrom_41 : decode cX8_walkFrom 41 = .ok (.ireturn, 1) := by decide +kernel
