/-! the start -/
def zI0 : xI := va_up (va_up (va_up (va_up (va_up (va_up (va_up (va_up (fun _ _ => 0) 21 (upd (upd (fun _ => 0) 6 2) 9 1)) 36 (upd (fun _ => 0) 4 1)) 42 (upd (fun _ => 0) 4 1)) 46 (upd (fun _ => 0) 4 1)) 58 (upd (fun _ => 0) 4 1)) 62 (upd (fun _ => 0) 4 1)) 77 (upd (fun _ => 0) 3 2)) 79 (upd (upd (upd (upd (fun _ => 0) 0 (-1)) 1 (-1)) 2 (-1)) 3 (-1))
def zJ0 : xJ := fun _ _ => 0
def zS0 : xSt := (fun _ => none, (2, 0, fun _ _ => 0, fun _ _ => none), fun _ => [])
def zG (g : yG) (a a' : Nat → Nat) : xG := (fun k => if k < 77 then a k else a' (k - 77), g)
theorem zc_0 (g : yG) (a a' : Nat → Nat) : (yl_X8_init g a)[0]? = some ((zG g a a').1 0, xs_e (zG g a a') zI0 zJ0 0) := by
  unfold xs_e
  rw [lay_0]
  rfl
theorem zc_3 (g : yG) (a a' : Nat → Nat) : (yl_X8_init g a)[3]? = some ((zG g a a').1 3, xs_e (zG g a a') zI0 zJ0 3) := by
  unfold xs_e
  rw [lay_3]
  rfl
theorem zc_4 (g : yG) (a a' : Nat → Nat) : (yl_X8_init g a)[61]? = some ((zG g a a').1 4, xs_e (zG g a a') zI0 zJ0 4) := by
  unfold xs_e
  rw [lay_4]
  rfl
theorem zc_5 (g : yG) (a a' : Nat → Nat) : (yl_X8_init g a)[62]? = some ((zG g a a').1 5, xs_e (zG g a a') zI0 zJ0 5) := by
  unfold xs_e
  rw [lay_5]
  rfl
theorem zc_6 (g : yG) (a a' : Nat → Nat) : (yl_X8_init g a)[63]? = some ((zG g a a').1 6, xs_e (zG g a a') zI0 zJ0 6) := by
  unfold xs_e
  rw [lay_6]
  rfl
theorem zc_7 (g : yG) (a a' : Nat → Nat) : (yl_X8_init g a)[64]? = some ((zG g a a').1 7, xs_e (zG g a a') zI0 zJ0 7) := by
  unfold xs_e
  rw [lay_7]
  rfl
theorem zc_8 (g : yG) (a a' : Nat → Nat) : (yl_X8_init g a)[65]? = some ((zG g a a').1 8, xs_e (zG g a a') zI0 zJ0 8) := by
  unfold xs_e
  rw [lay_8]
  rfl
theorem zc_9 (g : yG) (a a' : Nat → Nat) : (yl_X8_init g a)[66]? = some ((zG g a a').1 9, xs_e (zG g a a') zI0 zJ0 9) := by
  unfold xs_e
  rw [lay_9]
  rfl
theorem zc_10 (g : yG) (a a' : Nat → Nat) : (yl_X8_init g a)[67]? = some ((zG g a a').1 10, xs_e (zG g a a') zI0 zJ0 10) := by
  unfold xs_e
  rw [lay_10]
  rfl
theorem zc_11 (g : yG) (a a' : Nat → Nat) : (yl_X8_init g a)[68]? = some ((zG g a a').1 11, xs_e (zG g a a') zI0 zJ0 11) := by
  unfold xs_e
  rw [lay_11]
  rfl
theorem zc_12 (g : yG) (a a' : Nat → Nat) : (yl_X8_init g a)[69]? = some ((zG g a a').1 12, xs_e (zG g a a') zI0 zJ0 12) := by
  unfold xs_e
  rw [lay_12]
  rfl
theorem zc_13 (g : yG) (a a' : Nat → Nat) : (yl_X8_init g a)[70]? = some ((zG g a a').1 13, xs_e (zG g a a') zI0 zJ0 13) := by
  unfold xs_e
  rw [lay_13]
  rfl
theorem zc_14 (g : yG) (a a' : Nat → Nat) : (yl_X8_init g a)[71]? = some ((zG g a a').1 14, xs_e (zG g a a') zI0 zJ0 14) := by
  unfold xs_e
  rw [lay_14]
  rfl
theorem zc_15 (g : yG) (a a' : Nat → Nat) : (yl_X8_init g a)[72]? = some ((zG g a a').1 15, xs_e (zG g a a') zI0 zJ0 15) := by
  unfold xs_e
  rw [lay_15]
  rfl
theorem zc_16 (g : yG) (a a' : Nat → Nat) : (yl_X8_init g a)[73]? = some ((zG g a a').1 16, xs_e (zG g a a') zI0 zJ0 16) := by
  unfold xs_e
  rw [lay_16]
  rfl
theorem zc_17 (g : yG) (a a' : Nat → Nat) : (yl_X8_init g a)[74]? = some ((zG g a a').1 17, xs_e (zG g a a') zI0 zJ0 17) := by
  unfold xs_e
  rw [lay_17]
  rfl
theorem zc_18 (g : yG) (a a' : Nat → Nat) : (yl_X8_init g a)[75]? = some ((zG g a a').1 18, xs_e (zG g a a') zI0 zJ0 18) := by
  unfold xs_e
  rw [lay_18]
  rfl
theorem zc_19 (g : yG) (a a' : Nat → Nat) : (yl_X8_init g a)[76]? = some ((zG g a a').1 19, xs_e (zG g a a') zI0 zJ0 19) := by
  unfold xs_e
  rw [lay_19]
  rfl
theorem zc_20 (g : yG) (a a' : Nat → Nat) : (yl_X8_init g a)[4]? = some ((zG g a a').1 20, xs_e (zG g a a') zI0 zJ0 20) := by
  unfold xs_e
  rw [lay_20]
  rfl
theorem zc_21 (g : yG) (a a' : Nat → Nat) : (yl_X8_init g a)[5]? = some ((zG g a a').1 21, xs_e (zG g a a') zI0 zJ0 21) := by
  unfold xs_e
  rw [lay_21]
  rfl
theorem zc_22 (g : yG) (a a' : Nat → Nat) : (yl_X8_init g a)[6]? = some ((zG g a a').1 22, xs_e (zG g a a') zI0 zJ0 22) := by
  unfold xs_e
  rw [lay_22]
  rfl
theorem zc_23 (g : yG) (a a' : Nat → Nat) : (yl_X8_init g a)[7]? = some ((zG g a a').1 23, xs_e (zG g a a') zI0 zJ0 23) := by
  unfold xs_e
  rw [lay_23]
  rfl
theorem zc_24 (g : yG) (a a' : Nat → Nat) : (yl_X8_init g a)[8]? = some ((zG g a a').1 24, xs_e (zG g a a') zI0 zJ0 24) := by
  unfold xs_e
  rw [lay_24]
  rfl
theorem zc_25 (g : yG) (a a' : Nat → Nat) : (yl_X8_init g a)[9]? = some ((zG g a a').1 25, xs_e (zG g a a') zI0 zJ0 25) := by
  unfold xs_e
  rw [lay_25]
  rfl
theorem zc_26 (g : yG) (a a' : Nat → Nat) : (yl_X8_init g a)[10]? = some ((zG g a a').1 26, xs_e (zG g a a') zI0 zJ0 26) := by
  unfold xs_e
  rw [lay_26]
  rfl
theorem zc_27 (g : yG) (a a' : Nat → Nat) : (yl_X8_init g a)[11]? = some ((zG g a a').1 27, xs_e (zG g a a') zI0 zJ0 27) := by
  unfold xs_e
  rw [lay_27]
  rfl
theorem zc_28 (g : yG) (a a' : Nat → Nat) : (yl_X8_init g a)[12]? = some ((zG g a a').1 28, xs_e (zG g a a') zI0 zJ0 28) := by
  unfold xs_e
  rw [lay_28]
  rfl
theorem zc_29 (g : yG) (a a' : Nat → Nat) : (yl_X8_init g a)[13]? = some ((zG g a a').1 29, xs_e (zG g a a') zI0 zJ0 29) := by
  unfold xs_e
  rw [lay_29]
  rfl
theorem zc_30 (g : yG) (a a' : Nat → Nat) : (yl_X8_init g a)[14]? = some ((zG g a a').1 30, xs_e (zG g a a') zI0 zJ0 30) := by
  unfold xs_e
  rw [lay_30]
  rfl
theorem zc_31 (g : yG) (a a' : Nat → Nat) : (yl_X8_init g a)[15]? = some ((zG g a a').1 31, xs_e (zG g a a') zI0 zJ0 31) := by
  unfold xs_e
  rw [lay_31]
  rfl
theorem zc_32 (g : yG) (a a' : Nat → Nat) : (yl_X8_init g a)[16]? = some ((zG g a a').1 32, xs_e (zG g a a') zI0 zJ0 32) := by
  unfold xs_e
  rw [lay_32]
  rfl
theorem zc_33 (g : yG) (a a' : Nat → Nat) : (yl_X8_init g a)[17]? = some ((zG g a a').1 33, xs_e (zG g a a') zI0 zJ0 33) := by
  unfold xs_e
  rw [lay_33]
  rfl
theorem zc_34 (g : yG) (a a' : Nat → Nat) : (yl_X8_init g a)[18]? = some ((zG g a a').1 34, xs_e (zG g a a') zI0 zJ0 34) := by
  unfold xs_e
  rw [lay_34]
  rfl
theorem zc_35 (g : yG) (a a' : Nat → Nat) : (yl_X8_init g a)[19]? = some ((zG g a a').1 35, xs_e (zG g a a') zI0 zJ0 35) := by
  unfold xs_e
  rw [lay_35]
  rfl
theorem zc_36 (g : yG) (a a' : Nat → Nat) : (yl_X8_init g a)[20]? = some ((zG g a a').1 36, xs_e (zG g a a') zI0 zJ0 36) := by
  unfold xs_e
  rw [lay_36]
  rfl
theorem zc_37 (g : yG) (a a' : Nat → Nat) : (yl_X8_init g a)[21]? = some ((zG g a a').1 37, xs_e (zG g a a') zI0 zJ0 37) := by
  unfold xs_e
  rw [lay_37]
  rfl
theorem zc_38 (g : yG) (a a' : Nat → Nat) : (yl_X8_init g a)[22]? = some ((zG g a a').1 38, xs_e (zG g a a') zI0 zJ0 38) := by
  unfold xs_e
  rw [lay_38]
  rfl
theorem zc_39 (g : yG) (a a' : Nat → Nat) : (yl_X8_init g a)[23]? = some ((zG g a a').1 39, xs_e (zG g a a') zI0 zJ0 39) := by
  unfold xs_e
  rw [lay_39]
  rfl
theorem zc_40 (g : yG) (a a' : Nat → Nat) : (yl_X8_init g a)[24]? = some ((zG g a a').1 40, xs_e (zG g a a') zI0 zJ0 40) := by
  unfold xs_e
  rw [lay_40]
  rfl
theorem zc_41 (g : yG) (a a' : Nat → Nat) : (yl_X8_init g a)[25]? = some ((zG g a a').1 41, xs_e (zG g a a') zI0 zJ0 41) := by
  unfold xs_e
  rw [lay_41]
  rfl
theorem zc_42 (g : yG) (a a' : Nat → Nat) : (yl_X8_init g a)[26]? = some ((zG g a a').1 42, xs_e (zG g a a') zI0 zJ0 42) := by
  unfold xs_e
  rw [lay_42]
  rfl
theorem zc_43 (g : yG) (a a' : Nat → Nat) : (yl_X8_init g a)[27]? = some ((zG g a a').1 43, xs_e (zG g a a') zI0 zJ0 43) := by
  unfold xs_e
  rw [lay_43]
  rfl
theorem zc_44 (g : yG) (a a' : Nat → Nat) : (yl_X8_init g a)[28]? = some ((zG g a a').1 44, xs_e (zG g a a') zI0 zJ0 44) := by
  unfold xs_e
  rw [lay_44]
  rfl
theorem zc_45 (g : yG) (a a' : Nat → Nat) : (yl_X8_init g a)[29]? = some ((zG g a a').1 45, xs_e (zG g a a') zI0 zJ0 45) := by
  unfold xs_e
  rw [lay_45]
  rfl
theorem zc_46 (g : yG) (a a' : Nat → Nat) : (yl_X8_init g a)[30]? = some ((zG g a a').1 46, xs_e (zG g a a') zI0 zJ0 46) := by
  unfold xs_e
  rw [lay_46]
  rfl
theorem zc_47 (g : yG) (a a' : Nat → Nat) : (yl_X8_init g a)[31]? = some ((zG g a a').1 47, xs_e (zG g a a') zI0 zJ0 47) := by
  unfold xs_e
  rw [lay_47]
  rfl
theorem zc_48 (g : yG) (a a' : Nat → Nat) : (yl_X8_init g a)[32]? = some ((zG g a a').1 48, xs_e (zG g a a') zI0 zJ0 48) := by
  unfold xs_e
  rw [lay_48]
  rfl
theorem zc_49 (g : yG) (a a' : Nat → Nat) : (yl_X8_init g a)[33]? = some ((zG g a a').1 49, xs_e (zG g a a') zI0 zJ0 49) := by
  unfold xs_e
  rw [lay_49]
  rfl
theorem zc_50 (g : yG) (a a' : Nat → Nat) : (yl_X8_init g a)[34]? = some ((zG g a a').1 50, xs_e (zG g a a') zI0 zJ0 50) := by
  unfold xs_e
  rw [lay_50]
  rfl
theorem zc_51 (g : yG) (a a' : Nat → Nat) : (yl_X8_init g a)[35]? = some ((zG g a a').1 51, xs_e (zG g a a') zI0 zJ0 51) := by
  unfold xs_e
  rw [lay_51]
  rfl
theorem zc_52 (g : yG) (a a' : Nat → Nat) : (yl_X8_init g a)[36]? = some ((zG g a a').1 52, xs_e (zG g a a') zI0 zJ0 52) := by
  unfold xs_e
  rw [lay_52]
  rfl
theorem zc_53 (g : yG) (a a' : Nat → Nat) : (yl_X8_init g a)[37]? = some ((zG g a a').1 53, xs_e (zG g a a') zI0 zJ0 53) := by
  unfold xs_e
  rw [lay_53]
  rfl
theorem zc_54 (g : yG) (a a' : Nat → Nat) : (yl_X8_init g a)[38]? = some ((zG g a a').1 54, xs_e (zG g a a') zI0 zJ0 54) := by
  unfold xs_e
  rw [lay_54]
  rfl
theorem zc_55 (g : yG) (a a' : Nat → Nat) : (yl_X8_init g a)[39]? = some ((zG g a a').1 55, xs_e (zG g a a') zI0 zJ0 55) := by
  unfold xs_e
  rw [lay_55]
  rfl
theorem zc_56 (g : yG) (a a' : Nat → Nat) : (yl_X8_init g a)[40]? = some ((zG g a a').1 56, xs_e (zG g a a') zI0 zJ0 56) := by
  unfold xs_e
  rw [lay_56]
  rfl
theorem zc_57 (g : yG) (a a' : Nat → Nat) : (yl_X8_init g a)[41]? = some ((zG g a a').1 57, xs_e (zG g a a') zI0 zJ0 57) := by
  unfold xs_e
  rw [lay_57]
  rfl
theorem zc_58 (g : yG) (a a' : Nat → Nat) : (yl_X8_init g a)[42]? = some ((zG g a a').1 58, xs_e (zG g a a') zI0 zJ0 58) := by
  unfold xs_e
  rw [lay_58]
  rfl
theorem zc_59 (g : yG) (a a' : Nat → Nat) : (yl_X8_init g a)[43]? = some ((zG g a a').1 59, xs_e (zG g a a') zI0 zJ0 59) := by
  unfold xs_e
  rw [lay_59]
  rfl
theorem zc_60 (g : yG) (a a' : Nat → Nat) : (yl_X8_init g a)[44]? = some ((zG g a a').1 60, xs_e (zG g a a') zI0 zJ0 60) := by
  unfold xs_e
  rw [lay_60]
  rfl
theorem zc_61 (g : yG) (a a' : Nat → Nat) : (yl_X8_init g a)[45]? = some ((zG g a a').1 61, xs_e (zG g a a') zI0 zJ0 61) := by
  unfold xs_e
  rw [lay_61]
  rfl
theorem zc_62 (g : yG) (a a' : Nat → Nat) : (yl_X8_init g a)[46]? = some ((zG g a a').1 62, xs_e (zG g a a') zI0 zJ0 62) := by
  unfold xs_e
  rw [lay_62]
  rfl
theorem zc_63 (g : yG) (a a' : Nat → Nat) : (yl_X8_init g a)[47]? = some ((zG g a a').1 63, xs_e (zG g a a') zI0 zJ0 63) := by
  unfold xs_e
  rw [lay_63]
  rfl
theorem zc_64 (g : yG) (a a' : Nat → Nat) : (yl_X8_init g a)[48]? = some ((zG g a a').1 64, xs_e (zG g a a') zI0 zJ0 64) := by
  unfold xs_e
  rw [lay_64]
  rfl
theorem zc_65 (g : yG) (a a' : Nat → Nat) : (yl_X8_init g a)[49]? = some ((zG g a a').1 65, xs_e (zG g a a') zI0 zJ0 65) := by
  unfold xs_e
  rw [lay_65]
  rfl
theorem zc_66 (g : yG) (a a' : Nat → Nat) : (yl_X8_init g a)[50]? = some ((zG g a a').1 66, xs_e (zG g a a') zI0 zJ0 66) := by
  unfold xs_e
  rw [lay_66]
  rfl
theorem zc_67 (g : yG) (a a' : Nat → Nat) : (yl_X8_init g a)[51]? = some ((zG g a a').1 67, xs_e (zG g a a') zI0 zJ0 67) := by
  unfold xs_e
  rw [lay_67]
  rfl
theorem zc_68 (g : yG) (a a' : Nat → Nat) : (yl_X8_init g a)[52]? = some ((zG g a a').1 68, xs_e (zG g a a') zI0 zJ0 68) := by
  unfold xs_e
  rw [lay_68]
  rfl
theorem zc_69 (g : yG) (a a' : Nat → Nat) : (yl_X8_init g a)[53]? = some ((zG g a a').1 69, xs_e (zG g a a') zI0 zJ0 69) := by
  unfold xs_e
  rw [lay_69]
  rfl
theorem zc_70 (g : yG) (a a' : Nat → Nat) : (yl_X8_init g a)[54]? = some ((zG g a a').1 70, xs_e (zG g a a') zI0 zJ0 70) := by
  unfold xs_e
  rw [lay_70]
  rfl
theorem zc_71 (g : yG) (a a' : Nat → Nat) : (yl_X8_init g a)[55]? = some ((zG g a a').1 71, xs_e (zG g a a') zI0 zJ0 71) := by
  unfold xs_e
  rw [lay_71]
  rfl
theorem zc_72 (g : yG) (a a' : Nat → Nat) : (yl_X8_init g a)[56]? = some ((zG g a a').1 72, xs_e (zG g a a') zI0 zJ0 72) := by
  unfold xs_e
  rw [lay_72]
  rfl
theorem zc_73 (g : yG) (a a' : Nat → Nat) : (yl_X8_init g a)[57]? = some ((zG g a a').1 73, xs_e (zG g a a') zI0 zJ0 73) := by
  unfold xs_e
  rw [lay_73]
  rfl
theorem zc_74 (g : yG) (a a' : Nat → Nat) : (yl_X8_init g a)[58]? = some ((zG g a a').1 74, xs_e (zG g a a') zI0 zJ0 74) := by
  unfold xs_e
  rw [lay_74]
  rfl
theorem zc_75 (g : yG) (a a' : Nat → Nat) : (yl_X8_init g a)[59]? = some ((zG g a a').1 75, xs_e (zG g a a') zI0 zJ0 75) := by
  unfold xs_e
  rw [lay_75]
  rfl
theorem zc_76 (g : yG) (a a' : Nat → Nat) : (yl_X8_init g a)[60]? = some ((zG g a a').1 76, xs_e (zG g a a') zI0 zJ0 76) := by
  unfold xs_e
  rw [lay_76]
  rfl
theorem zc_77 (g : yG) (a a' : Nat → Nat) : (yl_X9_init g a')[0]? = some ((zG g a a').1 77, xs_e (zG g a a') zI0 zJ0 77) := by
  unfold xs_e
  rw [lay_77]
  rfl
theorem zc_78 (g : yG) (a a' : Nat → Nat) : (yl_X9_init g a')[1]? = some ((zG g a a').1 78, xs_e (zG g a a') zI0 zJ0 78) := by
  unfold xs_e
  rw [lay_78]
  rfl
theorem zc_79 (g : yG) (a a' : Nat → Nat) : (yl_X9_init g a')[2]? = some ((zG g a a').1 79, xs_e (zG g a a') zI0 zJ0 79) := by
  unfold xs_e
  rw [lay_79]
  rfl
theorem zc_80 (g : yG) (a a' : Nat → Nat) : (yl_X9_init g a')[3]? = some ((zG g a a').1 80, xs_e (zG g a a') zI0 zJ0 80) := by
  unfold xs_e
  rw [lay_80]
  rfl
theorem zc_81 (g : yG) (a a' : Nat → Nat) : (yl_X9_init g a')[4]? = some ((zG g a a').1 81, xs_e (zG g a a') zI0 zJ0 81) := by
  unfold xs_e
  rw [lay_81]
  rfl
theorem zc_82 (g : yG) (a a' : Nat → Nat) : (yl_X9_init g a')[5]? = some ((zG g a a').1 82, xs_e (zG g a a') zI0 zJ0 82) := by
  unfold xs_e
  rw [lay_82]
  rfl
theorem zc_83 (g : yG) (a a' : Nat → Nat) : (yl_X9_init g a')[6]? = some ((zG g a a').1 83, xs_e (zG g a a') zI0 zJ0 83) := by
  unfold xs_e
  rw [lay_83]
  rfl
theorem zc_84 (g : yG) (a a' : Nat → Nat) : (yl_X9_init g a')[7]? = some ((zG g a a').1 84, xs_e (zG g a a') zI0 zJ0 84) := by
  unfold xs_e
  rw [lay_84]
  rfl
theorem zc_85 (g : yG) (a a' : Nat → Nat) : (yl_X9_init g a')[8]? = some ((zG g a a').1 85, xs_e (zG g a a') zI0 zJ0 85) := by
  unfold xs_e
  rw [lay_85]
  rfl
theorem zc_86 (g : yG) (a a' : Nat → Nat) : (yl_X9_init g a')[9]? = some ((zG g a a').1 86, xs_e (zG g a a') zI0 zJ0 86) := by
  unfold xs_e
  rw [lay_86]
  rfl
theorem zc_87 (g : yG) (a a' : Nat → Nat) : (yl_X9_init g a')[10]? = some ((zG g a a').1 87, xs_e (zG g a a') zI0 zJ0 87) := by
  unfold xs_e
  rw [lay_87]
  rfl
theorem zc_88 (g : yG) (a a' : Nat → Nat) : (yl_X9_init g a')[11]? = some ((zG g a a').1 88, xs_e (zG g a a') zI0 zJ0 88) := by
  unfold xs_e
  rw [lay_88]
  rfl
theorem zc_89 (g : yG) (a a' : Nat → Nat) : (yl_X9_init g a')[12]? = some ((zG g a a').1 89, xs_e (zG g a a') zI0 zJ0 89) := by
  unfold xs_e
  rw [lay_89]
  rfl
theorem zc_90 (g : yG) (a a' : Nat → Nat) : (yl_X9_init g a')[13]? = some ((zG g a a').1 90, xs_e (zG g a a') zI0 zJ0 90) := by
  unfold xs_e
  rw [lay_90]
  rfl
theorem zc_91 (g : yG) (a a' : Nat → Nat) : (yl_X9_init g a')[14]? = some ((zG g a a').1 91, xs_e (zG g a a') zI0 zJ0 91) := by
  unfold xs_e
  rw [lay_91]
  rfl
theorem zc_92 (g : yG) (a a' : Nat → Nat) : (yl_X9_init g a')[15]? = some ((zG g a a').1 92, xs_e (zG g a a') zI0 zJ0 92) := by
  unfold xs_e
  rw [lay_92]
  rfl
theorem zc_93 (g : yG) (a a' : Nat → Nat) : (yl_X9_init g a')[16]? = some ((zG g a a').1 93, xs_e (zG g a a') zI0 zJ0 93) := by
  unfold xs_e
  rw [lay_93]
  rfl
theorem zc_94 (g : yG) (a a' : Nat → Nat) : (yl_X9_init g a')[17]? = some ((zG g a a').1 94, xs_e (zG g a a') zI0 zJ0 94) := by
  unfold xs_e
  rw [lay_94]
  rfl
theorem zc_95 (g : yG) (a a' : Nat → Nat) : (yl_X9_init g a')[18]? = some ((zG g a a').1 95, xs_e (zG g a a') zI0 zJ0 95) := by
  unfold xs_e
  rw [lay_95]
  rfl
theorem zc_96 (g : yG) (a a' : Nat → Nat) : (yl_X9_init g a')[19]? = some ((zG g a a').1 96, xs_e (zG g a a') zI0 zJ0 96) := by
  unfold xs_e
  rw [lay_96]
  rfl
theorem zc_97 (g : yG) (a a' : Nat → Nat) : (yl_X9_init g a')[20]? = some ((zG g a a').1 97, xs_e (zG g a a') zI0 zJ0 97) := by
  unfold xs_e
  rw [lay_97]
  rfl
theorem zc_98 (g : yG) (a a' : Nat → Nat) : (yl_X9_init g a')[21]? = some ((zG g a a').1 98, xs_e (zG g a a') zI0 zJ0 98) := by
  unfold xs_e
  rw [lay_98]
  rfl
theorem zc_99 (g : yG) (a a' : Nat → Nat) : (yl_X9_init g a')[22]? = some ((zG g a a').1 99, xs_e (zG g a a') zI0 zJ0 99) := by
  unfold xs_e
  rw [lay_99]
  rfl
theorem zc_100 (g : yG) (a a' : Nat → Nat) : (yl_X9_init g a')[23]? = some ((zG g a a').1 100, xs_e (zG g a a') zI0 zJ0 100) := by
  unfold xs_e
  rw [lay_100]
  rfl
theorem zc_101 (g : yG) (a a' : Nat → Nat) : (yl_X9_init g a')[24]? = some ((zG g a a').1 101, xs_e (zG g a a') zI0 zJ0 101) := by
  unfold xs_e
  rw [lay_101]
  rfl
theorem zc_102 (g : yG) (a a' : Nat → Nat) : (yl_X9_init g a')[25]? = some ((zG g a a').1 102, xs_e (zG g a a') zI0 zJ0 102) := by
  unfold xs_e
  rw [lay_102]
  rfl
theorem zc_103 (g : yG) (a a' : Nat → Nat) : (yl_X9_init g a')[26]? = some ((zG g a a').1 103, xs_e (zG g a a') zI0 zJ0 103) := by
  unfold xs_e
  rw [lay_103]
  rfl
theorem zc_104 (g : yG) (a a' : Nat → Nat) : (yl_X9_init g a')[27]? = some ((zG g a a').1 104, xs_e (zG g a a') zI0 zJ0 104) := by
  unfold xs_e
  rw [lay_104]
  rfl
theorem vp_q_congr {c : ClassId} {n : Nat} {f f' : Nat → Option Nat} (h : ∀ j, j < n → f j = f' j) : vp_cell c (n, .inr (.inr (.inr (.inr f)))) = vp_cell c (n, .inr (.inr (.inr (.inr f')))) := by
  rw [vp_cell_q, vp_cell_q]
  unfold arrV
  congr 2
  funext j
  show va_rf (f j.1) = va_rf (f' j.1)
  rw [h j.1 j.2]
theorem zf_1 (g : yG) (a a' : Nat → Nat) : ∀ j, j < 4 → (va_up (va_up (va_up (va_up (fun _ => none) 0 (some (a 4))) 1 (some (a 6))) 2 (some (a 8))) 3 (some (a 10))) j = some ((zG g a a').1 (4 + 2 * j))
  | 0, _ => rfl
  | 1, _ => rfl
  | 2, _ => rfl
  | 3, _ => rfl
  | n + 4, h => absurd h (by omega)
theorem zf_2 (g : yG) (a a' : Nat → Nat) : ∀ j, j < 8 → (va_up (va_up (va_up (va_up (va_up (va_up (va_up (va_up (fun _ => none) 0 (some (a 12))) 1 (some (a 13))) 2 (some (a 14))) 3 (some (a 15))) 4 (some (a 16))) 5 (some (a 17))) 6 (some (a 18))) 7 (some (a 19))) j = some ((zG g a a').1 (12 + j))
  | 0, _ => rfl
  | 1, _ => rfl
  | 2, _ => rfl
  | 3, _ => rfl
  | 4, _ => rfl
  | 5, _ => rfl
  | 6, _ => rfl
  | 7, _ => rfl
  | n + 8, h => absurd h (by omega)
theorem za_1 (g : yG) (a a' : Nat → Nat) {H : Heap} (h8 : va_P g.1 xcl (yl_X8_init g a) H) : va_at g.1 xcl ((zG g a a').1 1, xs_e (zG g a a') zI0 zJ0 1) H := by
  have h : H[a 1]? = some (vp_cell (g.2 3) (4, .inr (.inr (.inr (.inr _))))) := h8 1 _ rfl
  rw [vp_q_congr (zf_1 g a a')] at h
  unfold xs_e
  rw [lay_1]
  exact h
theorem za_2 (g : yG) (a a' : Nat → Nat) {H : Heap} (h8 : va_P g.1 xcl (yl_X8_init g a) H) : va_at g.1 xcl ((zG g a a').1 2, xs_e (zG g a a') zI0 zJ0 2) H := by
  have h : H[a 2]? = some (vp_cell (g.2 4) (8, .inr (.inr (.inr (.inr _))))) := h8 2 _ rfl
  rw [vp_q_congr (zf_2 g a a')] at h
  unfold xs_e
  rw [lay_2]
  exact h
theorem z_at (g : yG) (a a' : Nat → Nat) {H : Heap} (h8 : va_P g.1 xcl (yl_X8_init g a) H) (h9 : va_P g.1 xcl (yl_X9_init g a') H) : ∀ k, k < 105 → va_at g.1 xcl ((zG g a a').1 k, xs_e (zG g a a') zI0 zJ0 k) H
  | 0, _ => h8 0 _ (zc_0 g a a')
  | 1, _ => za_1 g a a' h8
  | 2, _ => za_2 g a a' h8
  | 3, _ => h8 3 _ (zc_3 g a a')
  | 4, _ => h8 61 _ (zc_4 g a a')
  | 5, _ => h8 62 _ (zc_5 g a a')
  | 6, _ => h8 63 _ (zc_6 g a a')
  | 7, _ => h8 64 _ (zc_7 g a a')
  | 8, _ => h8 65 _ (zc_8 g a a')
  | 9, _ => h8 66 _ (zc_9 g a a')
  | 10, _ => h8 67 _ (zc_10 g a a')
  | 11, _ => h8 68 _ (zc_11 g a a')
  | 12, _ => h8 69 _ (zc_12 g a a')
  | 13, _ => h8 70 _ (zc_13 g a a')
  | 14, _ => h8 71 _ (zc_14 g a a')
  | 15, _ => h8 72 _ (zc_15 g a a')
  | 16, _ => h8 73 _ (zc_16 g a a')
  | 17, _ => h8 74 _ (zc_17 g a a')
  | 18, _ => h8 75 _ (zc_18 g a a')
  | 19, _ => h8 76 _ (zc_19 g a a')
  | 20, _ => h8 4 _ (zc_20 g a a')
  | 21, _ => h8 5 _ (zc_21 g a a')
  | 22, _ => h8 6 _ (zc_22 g a a')
  | 23, _ => h8 7 _ (zc_23 g a a')
  | 24, _ => h8 8 _ (zc_24 g a a')
  | 25, _ => h8 9 _ (zc_25 g a a')
  | 26, _ => h8 10 _ (zc_26 g a a')
  | 27, _ => h8 11 _ (zc_27 g a a')
  | 28, _ => h8 12 _ (zc_28 g a a')
  | 29, _ => h8 13 _ (zc_29 g a a')
  | 30, _ => h8 14 _ (zc_30 g a a')
  | 31, _ => h8 15 _ (zc_31 g a a')
  | 32, _ => h8 16 _ (zc_32 g a a')
  | 33, _ => h8 17 _ (zc_33 g a a')
  | 34, _ => h8 18 _ (zc_34 g a a')
  | 35, _ => h8 19 _ (zc_35 g a a')
  | 36, _ => h8 20 _ (zc_36 g a a')
  | 37, _ => h8 21 _ (zc_37 g a a')
  | 38, _ => h8 22 _ (zc_38 g a a')
  | 39, _ => h8 23 _ (zc_39 g a a')
  | 40, _ => h8 24 _ (zc_40 g a a')
  | 41, _ => h8 25 _ (zc_41 g a a')
  | 42, _ => h8 26 _ (zc_42 g a a')
  | 43, _ => h8 27 _ (zc_43 g a a')
  | 44, _ => h8 28 _ (zc_44 g a a')
  | 45, _ => h8 29 _ (zc_45 g a a')
  | 46, _ => h8 30 _ (zc_46 g a a')
  | 47, _ => h8 31 _ (zc_47 g a a')
  | 48, _ => h8 32 _ (zc_48 g a a')
  | 49, _ => h8 33 _ (zc_49 g a a')
  | 50, _ => h8 34 _ (zc_50 g a a')
  | 51, _ => h8 35 _ (zc_51 g a a')
  | 52, _ => h8 36 _ (zc_52 g a a')
  | 53, _ => h8 37 _ (zc_53 g a a')
  | 54, _ => h8 38 _ (zc_54 g a a')
  | 55, _ => h8 39 _ (zc_55 g a a')
  | 56, _ => h8 40 _ (zc_56 g a a')
  | 57, _ => h8 41 _ (zc_57 g a a')
  | 58, _ => h8 42 _ (zc_58 g a a')
  | 59, _ => h8 43 _ (zc_59 g a a')
  | 60, _ => h8 44 _ (zc_60 g a a')
  | 61, _ => h8 45 _ (zc_61 g a a')
  | 62, _ => h8 46 _ (zc_62 g a a')
  | 63, _ => h8 47 _ (zc_63 g a a')
  | 64, _ => h8 48 _ (zc_64 g a a')
  | 65, _ => h8 49 _ (zc_65 g a a')
  | 66, _ => h8 50 _ (zc_66 g a a')
  | 67, _ => h8 51 _ (zc_67 g a a')
  | 68, _ => h8 52 _ (zc_68 g a a')
  | 69, _ => h8 53 _ (zc_69 g a a')
  | 70, _ => h8 54 _ (zc_70 g a a')
  | 71, _ => h8 55 _ (zc_71 g a a')
  | 72, _ => h8 56 _ (zc_72 g a a')
  | 73, _ => h8 57 _ (zc_73 g a a')
  | 74, _ => h8 58 _ (zc_74 g a a')
  | 75, _ => h8 59 _ (zc_75 g a a')
  | 76, _ => h8 60 _ (zc_76 g a a')
  | 77, _ => h9 0 _ (zc_77 g a a')
  | 78, _ => h9 1 _ (zc_78 g a a')
  | 79, _ => h9 2 _ (zc_79 g a a')
  | 80, _ => h9 3 _ (zc_80 g a a')
  | 81, _ => h9 4 _ (zc_81 g a a')
  | 82, _ => h9 5 _ (zc_82 g a a')
  | 83, _ => h9 6 _ (zc_83 g a a')
  | 84, _ => h9 7 _ (zc_84 g a a')
  | 85, _ => h9 8 _ (zc_85 g a a')
  | 86, _ => h9 9 _ (zc_86 g a a')
  | 87, _ => h9 10 _ (zc_87 g a a')
  | 88, _ => h9 11 _ (zc_88 g a a')
  | 89, _ => h9 12 _ (zc_89 g a a')
  | 90, _ => h9 13 _ (zc_90 g a a')
  | 91, _ => h9 14 _ (zc_91 g a a')
  | 92, _ => h9 15 _ (zc_92 g a a')
  | 93, _ => h9 16 _ (zc_93 g a a')
  | 94, _ => h9 17 _ (zc_94 g a a')
  | 95, _ => h9 18 _ (zc_95 g a a')
  | 96, _ => h9 19 _ (zc_96 g a a')
  | 97, _ => h9 20 _ (zc_97 g a a')
  | 98, _ => h9 21 _ (zc_98 g a a')
  | 99, _ => h9 22 _ (zc_99 g a a')
  | 100, _ => h9 23 _ (zc_100 g a a')
  | 101, _ => h9 24 _ (zc_101 g a a')
  | 102, _ => h9 25 _ (zc_102 g a a')
  | 103, _ => h9 26 _ (zc_103 g a a')
  | 104, _ => h9 27 _ (zc_104 g a a')
  | n + 105, h => absurd h (by omega)
def zpos (k : Nat) : Nat := ([0, 1, 2, 3, 61, 62, 63, 64, 65, 66, 67, 68, 69, 70, 71, 72, 73, 74, 75, 76, 4, 5, 6, 7, 8, 9, 10, 11, 12, 13, 14, 15, 16, 17, 18, 19, 20, 21, 22, 23, 24, 25, 26, 27, 28, 29, 30, 31, 32, 33, 34, 35, 36, 37, 38, 39, 40, 41, 42, 43, 44, 45, 46, 47, 48, 49, 50, 51, 52, 53, 54, 55, 56, 57, 58, 59, 60, 77, 78, 79, 80, 81, 82, 83, 84, 85, 86, 87, 88, 89, 90, 91, 92, 93, 94, 95, 96, 97, 98, 99, 100, 101, 102, 103, 104] : List Nat).getD k 0
def zinv (k : Nat) : Nat := ([0, 1, 2, 3, 20, 21, 22, 23, 24, 25, 26, 27, 28, 29, 30, 31, 32, 33, 34, 35, 36, 37, 38, 39, 40, 41, 42, 43, 44, 45, 46, 47, 48, 49, 50, 51, 52, 53, 54, 55, 56, 57, 58, 59, 60, 61, 62, 63, 64, 65, 66, 67, 68, 69, 70, 71, 72, 73, 74, 75, 76, 4, 5, 6, 7, 8, 9, 10, 11, 12, 13, 14, 15, 16, 17, 18, 19, 77, 78, 79, 80, 81, 82, 83, 84, 85, 86, 87, 88, 89, 90, 91, 92, 93, 94, 95, 96, 97, 98, 99, 100, 101, 102, 103, 104] : List Nat).getD k 0
theorem zinv_pos : ∀ k, k < 105 → zinv (zpos k) = k := by decide
theorem z_pos (g : yG) (a a' : Nat → Nat) : ∀ k, k < 105 → ∃ e, (yl_X8_init g a ++ yl_X9_init g a')[zpos k]? = some ((zG g a a').1 k, e)
  | 0, _ => ⟨_, rfl⟩
  | 1, _ => ⟨_, rfl⟩
  | 2, _ => ⟨_, rfl⟩
  | 3, _ => ⟨_, rfl⟩
  | 4, _ => ⟨_, rfl⟩
  | 5, _ => ⟨_, rfl⟩
  | 6, _ => ⟨_, rfl⟩
  | 7, _ => ⟨_, rfl⟩
  | 8, _ => ⟨_, rfl⟩
  | 9, _ => ⟨_, rfl⟩
  | 10, _ => ⟨_, rfl⟩
  | 11, _ => ⟨_, rfl⟩
  | 12, _ => ⟨_, rfl⟩
  | 13, _ => ⟨_, rfl⟩
  | 14, _ => ⟨_, rfl⟩
  | 15, _ => ⟨_, rfl⟩
  | 16, _ => ⟨_, rfl⟩
  | 17, _ => ⟨_, rfl⟩
  | 18, _ => ⟨_, rfl⟩
  | 19, _ => ⟨_, rfl⟩
  | 20, _ => ⟨_, rfl⟩
  | 21, _ => ⟨_, rfl⟩
  | 22, _ => ⟨_, rfl⟩
  | 23, _ => ⟨_, rfl⟩
  | 24, _ => ⟨_, rfl⟩
  | 25, _ => ⟨_, rfl⟩
  | 26, _ => ⟨_, rfl⟩
  | 27, _ => ⟨_, rfl⟩
  | 28, _ => ⟨_, rfl⟩
  | 29, _ => ⟨_, rfl⟩
  | 30, _ => ⟨_, rfl⟩
  | 31, _ => ⟨_, rfl⟩
  | 32, _ => ⟨_, rfl⟩
  | 33, _ => ⟨_, rfl⟩
  | 34, _ => ⟨_, rfl⟩
  | 35, _ => ⟨_, rfl⟩
  | 36, _ => ⟨_, rfl⟩
  | 37, _ => ⟨_, rfl⟩
  | 38, _ => ⟨_, rfl⟩
  | 39, _ => ⟨_, rfl⟩
  | 40, _ => ⟨_, rfl⟩
  | 41, _ => ⟨_, rfl⟩
  | 42, _ => ⟨_, rfl⟩
  | 43, _ => ⟨_, rfl⟩
  | 44, _ => ⟨_, rfl⟩
  | 45, _ => ⟨_, rfl⟩
  | 46, _ => ⟨_, rfl⟩
  | 47, _ => ⟨_, rfl⟩
  | 48, _ => ⟨_, rfl⟩
  | 49, _ => ⟨_, rfl⟩
  | 50, _ => ⟨_, rfl⟩
  | 51, _ => ⟨_, rfl⟩
  | 52, _ => ⟨_, rfl⟩
  | 53, _ => ⟨_, rfl⟩
  | 54, _ => ⟨_, rfl⟩
  | 55, _ => ⟨_, rfl⟩
  | 56, _ => ⟨_, rfl⟩
  | 57, _ => ⟨_, rfl⟩
  | 58, _ => ⟨_, rfl⟩
  | 59, _ => ⟨_, rfl⟩
  | 60, _ => ⟨_, rfl⟩
  | 61, _ => ⟨_, rfl⟩
  | 62, _ => ⟨_, rfl⟩
  | 63, _ => ⟨_, rfl⟩
  | 64, _ => ⟨_, rfl⟩
  | 65, _ => ⟨_, rfl⟩
  | 66, _ => ⟨_, rfl⟩
  | 67, _ => ⟨_, rfl⟩
  | 68, _ => ⟨_, rfl⟩
  | 69, _ => ⟨_, rfl⟩
  | 70, _ => ⟨_, rfl⟩
  | 71, _ => ⟨_, rfl⟩
  | 72, _ => ⟨_, rfl⟩
  | 73, _ => ⟨_, rfl⟩
  | 74, _ => ⟨_, rfl⟩
  | 75, _ => ⟨_, rfl⟩
  | 76, _ => ⟨_, rfl⟩
  | 77, _ => ⟨_, rfl⟩
  | 78, _ => ⟨_, rfl⟩
  | 79, _ => ⟨_, rfl⟩
  | 80, _ => ⟨_, rfl⟩
  | 81, _ => ⟨_, rfl⟩
  | 82, _ => ⟨_, rfl⟩
  | 83, _ => ⟨_, rfl⟩
  | 84, _ => ⟨_, rfl⟩
  | 85, _ => ⟨_, rfl⟩
  | 86, _ => ⟨_, rfl⟩
  | 87, _ => ⟨_, rfl⟩
  | 88, _ => ⟨_, rfl⟩
  | 89, _ => ⟨_, rfl⟩
  | 90, _ => ⟨_, rfl⟩
  | 91, _ => ⟨_, rfl⟩
  | 92, _ => ⟨_, rfl⟩
  | 93, _ => ⟨_, rfl⟩
  | 94, _ => ⟨_, rfl⟩
  | 95, _ => ⟨_, rfl⟩
  | 96, _ => ⟨_, rfl⟩
  | 97, _ => ⟨_, rfl⟩
  | 98, _ => ⟨_, rfl⟩
  | 99, _ => ⟨_, rfl⟩
  | 100, _ => ⟨_, rfl⟩
  | 101, _ => ⟨_, rfl⟩
  | 102, _ => ⟨_, rfl⟩
  | 103, _ => ⟨_, rfl⟩
  | 104, _ => ⟨_, rfl⟩
  | n + 105, h => absurd h (by omega)
theorem z_inj (g : yG) (a a' : Nat → Nat) {A : Nat → Prop} (hD : va_D A (yl_X8_init g a ++ yl_X9_init g a')) : xInj (zG g a a') := by
  intro i j hi hj e
  obtain ⟨e1, h1⟩ := z_pos g a a' i hi
  obtain ⟨e2, h2⟩ := z_pos g a a' j hj
  have := hD.1 _ _ _ _ h1 h2 e
  rw [← zinv_pos i hi, ← zinv_pos j hj, this]
theorem z_in (g : yG) (a a' : Nat → Nat) {A : Nat → Prop} (hD : va_D A (yl_X8_init g a ++ yl_X9_init g a')) : ∀ k, k < xN → A ((zG g a a').1 k) := by
  intro k hk
  obtain ⟨e1, h1⟩ := z_pos g a a' k hk
  exact hD.2 _ _ h1
theorem z_P (g : yG) (a a' : Nat → Nat) {H : Heap} (hP : va_P g.1 xcl (yl_X8_init g a ++ yl_X9_init g a') H) : va_P g.1 xcl (xws (zG g a a') zI0 zJ0) H := by
  have h8 : va_P g.1 xcl (yl_X8_init g a) H := fun k q hk => hP k q (by
    rw [List.getElem?_append_left (List.getElem?_eq_some_iff.mp hk).1]; exact hk)
  have h9 : va_P g.1 xcl (yl_X9_init g a') H := fun k q hk => hP ((yl_X8_init g a).length + k) q (by
    rw [List.getElem?_append_right (by omega), Nat.add_sub_cancel_left]; exact hk)
  intro k q hk
  obtain ⟨hkn, rfl⟩ := xws_inv hk
  exact z_at g a a' h8 h9 k hkn
-- the first picture
theorem z_kT {t n sz : Nat} (hn : ∀ a, t ≤ a → a ≤ t + 3 → ∀ j, (a, j) ≠ (t, 4) → zI0 a j = 0) (h4 : zI0 t 4 = 1) : ∃ ks, kT zI0 zJ0 t n sz ks := by
  refine ⟨[], 1, fun _ => 0, hn t (by omega) (by omega) 3 (by simp), Nat.zero_le _, h4, by omega, by omega, fun k hk => absurd hk (Nat.not_lt_zero k), fun s hs => ⟨hn (t + 3) (by omega) (by omega) s (by simp), by show 0 / 4096 ≤ 1; decide⟩, ?_⟩
  exact hOk.nil (fun s _ => by simp [kTT])
theorem z_kT36 : ∃ ks, kT zI0 zJ0 36 3000 4096 ks := z_kT (fun a h1 h2 j hj => by
  rcases (show a = 36 ∨ a = 37 ∨ a = 38 ∨ a = 39 by omega) with rfl | rfl | rfl | rfl
  · show (if j = 4 then (1 : Int32) else 0) = 0
    rw [if_neg (fun e => hj (by rw [e]))]
  · rfl
  · rfl
  · rfl) rfl
theorem z_pQ41 : pQ zI0 zJ0 41 := ⟨(z_kT (fun a h1 h2 j hj => by
    rcases (show a = 42 ∨ a = 43 ∨ a = 44 ∨ a = 45 by omega) with rfl | rfl | rfl | rfl
    · show (if j = 4 then (1 : Int32) else 0) = 0
      rw [if_neg (fun e => hj (by rw [e]))]
    · rfl
    · rfl
    · rfl) rfl), (z_kT (fun a h1 h2 j hj => by
    rcases (show a = 46 ∨ a = 47 ∨ a = 48 ∨ a = 49 by omega) with rfl | rfl | rfl | rfl
    · show (if j = 4 then (1 : Int32) else 0) = 0
      rw [if_neg (fun e => hj (by rw [e]))]
    · rfl
    · rfl
    · rfl) rfl)⟩
theorem z_pQ57 : pQ zI0 zJ0 57 := ⟨(z_kT (fun a h1 h2 j hj => by
    rcases (show a = 58 ∨ a = 59 ∨ a = 60 ∨ a = 61 by omega) with rfl | rfl | rfl | rfl
    · show (if j = 4 then (1 : Int32) else 0) = 0
      rw [if_neg (fun e => hj (by rw [e]))]
    · rfl
    · rfl
    · rfl) rfl), (z_kT (fun a h1 h2 j hj => by
    rcases (show a = 62 ∨ a = 63 ∨ a = 64 ∨ a = 65 by omega) with rfl | rfl | rfl | rfl
    · show (if j = 4 then (1 : Int32) else 0) = 0
      rw [if_neg (fun e => hj (by rw [e]))]
    · rfl
    · rfl
    · rfl) rfl)⟩
theorem z_ok : mOk zS0.2.1 := ⟨by decide, by decide, by decide, fun s x hs => absurd hs (Nat.not_lt_zero s)⟩
theorem z_marks : mMarks zS0.2.1 = [] := rfl
theorem z_wG : wGood zS0.2.1 [] := ⟨by decide, fun i h => absurd h (Nat.not_lt_zero _), fun m hm => absurd hm List.not_mem_nil⟩
theorem z_mB (i : Nat) : mB zS0.2.1 i = false := mB_f.mpr (fun h => Nat.not_lt_zero _ h.lt)
theorem z_mW : mW zS0.2.1 = true := mW_iff.mpr (fun s x hs => absurd hs (Nat.not_lt_zero s))
theorem z_cSh : cSh zI0 zS0.1
  | 0, _ => rfl
  | 1, _ => rfl
  | 2, _ => rfl
  | 3, _ => rfl
  | n + 4, h => absurd h (by omega)
theorem z_cSp : cSp zI0 zJ0 zS0.2.1 zS0.2.2
  | 0, _ => ⟨⟨rfl, rfl⟩, z_wG⟩
  | 1, _ => ⟨⟨rfl, rfl⟩, z_wG⟩
  | 2, _ => ⟨⟨rfl, rfl⟩, z_wG⟩
  | 3, _ => ⟨⟨rfl, rfl⟩, z_wG⟩
  | 4, _ => ⟨⟨rfl, rfl⟩, z_wG⟩
  | 5, _ => ⟨⟨rfl, rfl⟩, z_wG⟩
  | 6, _ => ⟨⟨rfl, rfl⟩, z_wG⟩
  | 7, _ => ⟨⟨rfl, rfl⟩, z_wG⟩
  | n + 8, h => absurd h (by omega)
theorem z_cMc : cMc zI0 zS0.2.1 := by
  refine ⟨⟨z_ok, rfl, rfl, fun s x hs => absurd hs (Nat.not_lt_zero s)⟩, fun i hi => ?_, ?_, ⟨?_, fun i h => ?_⟩, fun m x hm => absurd hm.1 (Nat.not_lt_zero _)⟩
  · rw [z_mB]
    show tb 0 i = false
    simp [tb]
  · rw [z_mW]; rfl
  · rw [z_marks]; rfl
  · rw [z_marks] at h; exact absurd h (Nat.not_lt_zero i)
theorem z_cIv : cIv zI0 zJ0 zS0 := ⟨z_cSh, z_cMc, z_cSp, z_pQ41, ⟨0, rfl, by omega, fun j hj => absurd hj (Nat.not_lt_zero j), fun j hj => absurd hj (Nat.not_lt_zero j)⟩, z_kT36, z_pQ57, Or.inl rfl⟩
theorem z_mSh : mSh zI0 zS0.1
  | 0, _ => rfl
  | 1, _ => rfl
  | 2, _ => rfl
  | 3, _ => rfl
  | n + 4, h => absurd h (by omega)
theorem z_mIv : mIv zI0 zS0 := ⟨z_mSh, ⟨z_ok, rfl, rfl, fun s x hs => absurd hs (Nat.not_lt_zero s)⟩, fun w hw => ⟨⟨rfl, fun i h => absurd h (Nat.not_lt_zero i)⟩, z_wG⟩⟩
